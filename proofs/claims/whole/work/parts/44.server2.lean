/-! Server: what it does -/
theorem nw_S_Ine {n s k j : Nat} {w : nw_W} {f : Nat → Int32} (h : k ≠ j) : nw_I (nw_setI w (nw_S n s j) f) (nw_S n s k) = nw_I w (nw_S n s k) := by
  rw [nw_I_I, va_up_ne]
  rw [Ne, nw_Sk]
  exact h
theorem nw_S_Ieq {n s k : Nat} {w : nw_W} {f : Nat → Int32} : nw_I (nw_setI w (nw_S n s k) f) (nw_S n s k) = f := by
  rw [nw_I_I, va_up_self]
/-- old numbers of article i are taken -/
def nw_old (n s i : Nat) (c : Int32) (w : nw_W) : Nat → nw_W
  | 0 => w
  | g + 1 => if nw_I w (nw_S n s 7) g < c - nw_I w (nw_S n s 16) i then nw_setI (nw_old n s i c w g) (nw_S n s (10 + g)) (upd (nw_I w (nw_S n s (10 + g))) i (nI 0)) else nw_old n s i c w g
theorem nw_old_ok (n s i : Nat) (c : Int32) (w : nw_W) : ∀ G, G ≤ 6 → (nw_old n s i c w G).1 = w.1 ∧ nw_L (nw_old n s i c w G) = nw_L w ∧ (∀ a, (∀ g, g < G → a ≠ nw_S n s (10 + g)) → nw_I (nw_old n s i c w G) a = nw_I w a) ∧ ∀ g, g < G → nw_I (nw_old n s i c w G) (nw_S n s (10 + g)) = if nw_I w (nw_S n s 7) g < c - nw_I w (nw_S n s 16) i then upd (nw_I w (nw_S n s (10 + g))) i (nI 0) else nw_I w (nw_S n s (10 + g))
  | 0, _ => ⟨rfl, rfl, fun _ _ => rfl, fun g h => absurd h (by omega)⟩
  | G + 1, hG => by
    obtain ⟨h1, h2, h3, h4⟩ := nw_old_ok n s i c w G (by omega)
    by_cases hc : nw_I w (nw_S n s 7) G < c - nw_I w (nw_S n s 16) i
    · simp only [nw_old, if_pos hc]
      refine ⟨h1, h2, fun a ha => ?_, fun g hg => ?_⟩
      · rw [nw_I_I, va_up_ne _ _ (ha G (by omega))]
        exact h3 a (fun g hg => ha g (by omega))
      · by_cases hgG : g = G
        · subst hgG
          rw [nw_S_Ieq, if_pos hc]
        · rw [nw_S_Ine (show 10 + g ≠ 10 + G by omega)]
          exact h4 g (by omega)
    · simp only [nw_old, if_neg hc]
      refine ⟨h1, h2, fun a ha => h3 a (fun g hg => ha g (by omega)), fun g hg => ?_⟩
      by_cases hgG : g = G
      · subst hgG
        rw [if_neg hc]
        exact h3 _ (fun g' hg' => by rw [Ne, nw_Sk]; omega)
      · exact h4 g (by omega)
/-- article i comes into the groups -/
def nw_hold (n s i : Nat) (x : Int32) (w : nw_W) : Nat → nw_W
  | 0 => w
  | g + 1 => if bt x g = true ∧ nI 0 < nw_I w (nw_S n s 7) g then nw_setI (nw_setI (nw_hold n s i x w g) (nw_S n s 8) (upd (nw_I (nw_hold n s i x w g) (nw_S n s 8)) g (nw_I w (nw_S n s 8) g + nI 1))) (nw_S n s (10 + g)) (upd (nw_I w (nw_S n s (10 + g))) i (nw_I w (nw_S n s 8) g + nI 1)) else nw_hold n s i x w g
theorem nw_hold_ok (n s i : Nat) (x : Int32) (w : nw_W) : ∀ G, G ≤ 6 → (nw_hold n s i x w G).1 = w.1 ∧ nw_L (nw_hold n s i x w G) = nw_L w ∧ (∀ a, a ≠ nw_S n s 8 → (∀ g, g < G → a ≠ nw_S n s (10 + g)) → nw_I (nw_hold n s i x w G) a = nw_I w a) ∧ (∀ g, nw_I (nw_hold n s i x w G) (nw_S n s 8) g = if g < G ∧ bt x g = true ∧ nI 0 < nw_I w (nw_S n s 7) g then nw_I w (nw_S n s 8) g + nI 1 else nw_I w (nw_S n s 8) g) ∧
    ∀ g, g < G → nw_I (nw_hold n s i x w G) (nw_S n s (10 + g)) = if bt x g = true ∧ nI 0 < nw_I w (nw_S n s 7) g then upd (nw_I w (nw_S n s (10 + g))) i (nw_I w (nw_S n s 8) g + nI 1) else nw_I w (nw_S n s (10 + g))
  | 0, _ => ⟨rfl, rfl, fun _ _ _ => rfl, fun g => by rw [if_neg (by omega)]; rfl, fun g h => absurd h (by omega)⟩
  | G + 1, hG => by
    obtain ⟨h1, h2, h3, h5, h4⟩ := nw_hold_ok n s i x w G (by omega)
    by_cases hc : bt x G = true ∧ nI 0 < nw_I w (nw_S n s 7) G
    · simp only [nw_hold, if_pos hc]
      refine ⟨h1, h2, fun a ha hb => ?_, fun g => ?_, fun g hg => ?_⟩
      · rw [nw_I_I, va_up_ne _ _ (hb G (by omega)), nw_I_I, va_up_ne _ _ ha]
        exact h3 a ha (fun g hg => hb g (by omega))
      · rw [nw_S_Ine (show 8 ≠ 10 + G by omega), nw_S_Ieq]
        unfold upd
        by_cases hgG : g = G
        · subst hgG
          rw [if_pos rfl, if_pos ⟨by omega, hc⟩]
        · have : (g < G + 1) = (g < G) := propext (by omega)
          rw [if_neg hgG, h5 g]
          simp only [this]
      · by_cases hgG : g = G
        · subst hgG
          rw [nw_S_Ieq, if_pos hc]
        · rw [nw_S_Ine (show 10 + g ≠ 10 + G by omega), nw_S_Ine (show 10 + g ≠ 8 by omega)]
          exact h4 g (by omega)
    · simp only [nw_hold, if_neg hc]
      refine ⟨h1, h2, fun a ha hb => h3 a ha (fun g hg => hb g (by omega)), fun g => ?_, fun g hg => ?_⟩
      · rw [h5 g]
        by_cases hgG : g = G
        · subst hgG
          rw [if_neg (by omega), if_neg (fun q => hc q.2)]
        · have : (g < G + 1) = (g < G) := propext (by omega)
          simp only [this]
      · by_cases hgG : g = G
        · subst hgG
          rw [if_neg hc]
          exact h3 _ (by rw [Ne, nw_Sk]; omega) (fun g' hg' => by rw [Ne, nw_Sk]; omega)
        · exact h4 g (by omega)
/-- article i leaves the groups -/
def nw_zr (n s i : Nat) (w : nw_W) : Nat → nw_W
  | 0 => w
  | g + 1 => nw_setI (nw_zr n s i w g) (nw_S n s (10 + g)) (upd (nw_I w (nw_S n s (10 + g))) i (nI 0))
theorem nw_zr_ok (n s i : Nat) (w : nw_W) : ∀ G, G ≤ 6 → (nw_zr n s i w G).1 = w.1 ∧ nw_L (nw_zr n s i w G) = nw_L w ∧ (∀ a, (∀ g, g < G → a ≠ nw_S n s (10 + g)) → nw_I (nw_zr n s i w G) a = nw_I w a) ∧ ∀ g, g < G → nw_I (nw_zr n s i w G) (nw_S n s (10 + g)) = upd (nw_I w (nw_S n s (10 + g))) i (nI 0)
  | 0, _ => ⟨rfl, rfl, fun _ _ => rfl, fun g h => absurd h (by omega)⟩
  | G + 1, hG => by
    obtain ⟨h1, h2, h3, h4⟩ := nw_zr_ok n s i w G (by omega)
    simp only [nw_zr]
    refine ⟨h1, h2, fun a ha => ?_, fun g hg => ?_⟩
    · rw [nw_I_I, va_up_ne _ _ (ha G (by omega))]
      exact h3 a (fun g hg => ha g (by omega))
    · by_cases hgG : g = G
      · subst hgG
        rw [nw_S_Ieq]
      · rw [nw_S_Ine (show 10 + g ≠ 10 + G by omega)]
        exact h4 g (by omega)
/-- the backlogs to the first T servers without x -/
def nw_bo (n s : Nat) (x : Int32) (T : Nat) (w w' : nw_W) : Prop := w'.1 = w.1 ∧ nw_L w' = nw_L w ∧ (∀ a, (∀ t, t < T → a ≠ nw_S n s (20 + 2 * t) ∧ a ≠ nw_S n s (21 + 2 * t)) → nw_I w' a = nw_I w a) ∧ ∀ t, t < T → ∀ q, q ≤ 24 → nw_I w (nw_S n s (20 + 2 * t)) 1 = nI q → ∃ c, nw_I w' (nw_S n s (20 + 2 * t)) 1 = nI c ∧ nw_pre (nw_I w' (nw_S n s (21 + 2 * t))) c = nw_out x (nw_pre (nw_I w (nw_S n s (21 + 2 * t))) q)
/-- article i is removed: rows behind it -/
def nw_rmA (n s i : Nat) (x : Int32) (w w' : nw_W) : Prop := nw_bo n s (nI i) n (nw_zr n s i (nw_setI (nw_setI w (nw_S n s 4) (upd (nw_I w (nw_S n s 4)) i x)) (nw_S n s 2) (fun b => if b < 24 ∧ nw_I w (nw_S n s 2) b = nI i then nI 0 else nw_I w (nw_S n s 2) b)) 6) w'
section SW
variable {n s : Nat} {w : nw_W}
set_option maxRecDepth 20000 in
theorem c_Se_takeOld {i : Nat} (c : Int32) (hi : i ≤ 40) (hO : nw_Ok n w) (hs : s < n) : V mSe_takeOldNumbers 0 (nw_ent mSe_takeOldNumbers [.ref (nw_S n s 0), .int (nI i), .int c]) [] w 0 0 (nw_rw (nw_old n s i c w 6)) := by
  have loop : ∀ d g, g + d = 6 → ∀ u, u = nw_old n s i c w g → V mSe_takeOldNumbers 2 [.ref (nw_S n s 0), .int (nI i), .int c, .int (nI g)] [] u 0 0 (nw_rw (nw_old n s i c w 6)) := by
    intro d
    induction d with
    | zero =>
      intro g hg u hu
      have hg : g = 6 := by omega
      subst hg
      (apply V_s1 [2] 26; simp only [nwx_0, nwx_S, nw_s1, nw_pII, nw_pA, nw_tIs, nw_vis, nw_jpx, Option.isSome_some, Option.getD_some, nw_popn, nw_rok, nw_wok, nw_isR, nw_cd, nw_at, nw_put, nw_nl0, nw_nlS, nw_no2s, nw_ft, nw_l01, nw_ak, nw_tsw, nw_flat, Value.category, List.mem_cons, List.not_mem_nil, List.length_cons, List.length_nil, or_false, false_or, or_true, true_or, and_true, true_and, and_false, false_and, if_true, if_false, Option.some.injEq, Prod.mk.injEq, and_assoc, exists_and_left, exists_eq_left, exists_eq_left', exists_const, nw_ks, nw_f4, nw_fvs, nw_some, Nat.reduceAdd, nw_sz_I, nw_kd_I, nw_ln_I, nw_rf_I, nw_L_I, nw_I_I, nw_sz_L, nw_kd_L, nw_ln_L, nw_rf_L, nw_I_L, nw_L_L, nw_ob_I, nw_ob_L, nw_obr_I, nw_obr_L, nI_add, nw_b0, nw_b1, nw_b01, not_false_eq_true, not_true_eq_false, false_implies, true_implies, Classical.not_not, nw_i10, decide_eq_false_iff_not, decide_eq_true_eq, ne_eq, Option.toList_some, Option.toList_none, List.cons_append, List.nil_append, reduceIte, Nat.reduceEqDiff, Nat.reduceLT, Nat.reduceLeDiff, Nat.reduceSub, Nat.reduceMul, reduceCtorEq, ↓nwx_aaload, ↓nwx_aload_n, ↓nwx_bipush, ↓nwx_getfield, ↓nwx_goto, ↓nwx_iaload, ↓nwx_iastore, ↓nwx_iconst, ↓nwx_if_icmp, ↓nwx_iinc, ↓nwx_iload_n, ↓nwx_isub, ↓nwx_return_, dmSe_takeOldNumbers_0, rmSe_takeOldNumbers]; try simp (disch := omega) only [nw_b0, nw_b1, nw_ilt, nw_ile, nw_ieq, nw_icl, nw_iin, nI_add, and_true, true_and, and_false, false_and, not_false_eq_true, not_true_eq_false, false_implies, true_implies, Classical.not_not, ne_eq, reduceIte, Nat.reduceEqDiff, Nat.reduceLT, Nat.reduceLeDiff, Nat.reduceAdd, Nat.reduceSub, Nat.reduceMul])
      exact ⟨rfl, hu⟩
    | succ d ih =>
      intro g hg u hu
      obtain ⟨o1, o2, o3, o4⟩ := nw_old_ok n s i c w g (by omega)
      rw [← hu] at o1 o2 o3 o4
      have hO' := nw_Ok_1 o1 hO
      have hv := nw_Ok_sv hO' hs
      have h9 := nw_Sv_9 hv
      unfold nw_Sv at hv
      have hgg := nw_Ok_sg hO' hs (show g < 6 by omega)
      unfold nw_Sg at hgg
      have hcl : (nI g).toNatClampNeg = g := nI_clamp (by omega)
      have e7 := o3 (nw_S n s 7) (fun g' hg' => by rw [Ne, nw_Sk]; omega)
      have e16 := o3 (nw_S n s 16) (fun g' hg' => by rw [Ne, nw_Sk]; omega)
      have eg := o3 (nw_S n s (10 + g)) (fun g' hg' => by rw [Ne, nw_Sk]; omega)
      (apply V_s1 [2] 26; simp only [nwx_0, nwx_S, nw_s1, nw_pII, nw_pA, nw_tIs, nw_vis, nw_jpx, Option.isSome_some, Option.getD_some, nw_popn, nw_rok, nw_wok, nw_isR, nw_cd, nw_at, nw_put, nw_nl0, nw_nlS, nw_no2s, nw_ft, nw_l01, nw_ak, nw_tsw, nw_flat, Value.category, List.mem_cons, List.not_mem_nil, List.length_cons, List.length_nil, or_false, false_or, or_true, true_or, and_true, true_and, and_false, false_and, if_true, if_false, Option.some.injEq, Prod.mk.injEq, and_assoc, exists_and_left, exists_eq_left, exists_eq_left', exists_const, nw_ks, nw_f4, nw_fvs, nw_some, Nat.reduceAdd, nw_sz_I, nw_kd_I, nw_ln_I, nw_rf_I, nw_L_I, nw_I_I, nw_sz_L, nw_kd_L, nw_ln_L, nw_rf_L, nw_I_L, nw_L_L, nw_ob_I, nw_ob_L, nw_obr_I, nw_obr_L, nI_add, nw_b0, nw_b1, nw_b01, not_false_eq_true, not_true_eq_false, false_implies, true_implies, Classical.not_not, nw_i10, decide_eq_false_iff_not, decide_eq_true_eq, ne_eq, Option.toList_some, Option.toList_none, List.cons_append, List.nil_append, reduceIte, Nat.reduceEqDiff, Nat.reduceLT, Nat.reduceLeDiff, Nat.reduceSub, Nat.reduceMul, reduceCtorEq, ↓nwx_aaload, ↓nwx_aload_n, ↓nwx_bipush, ↓nwx_getfield, ↓nwx_goto, ↓nwx_iaload, ↓nwx_iastore, ↓nwx_iconst, ↓nwx_if_icmp, ↓nwx_iinc, ↓nwx_iload_n, ↓nwx_isub, ↓nwx_return_, dmSe_takeOldNumbers_0, rmSe_takeOldNumbers, hv, h9, hgg, hcl, e7, e16, eg]; try simp (disch := omega) only [nw_b0, nw_b1, nw_ilt, nw_ile, nw_ieq, nw_icl, nw_iin, nI_add, and_true, true_and, and_false, false_and, not_false_eq_true, not_true_eq_false, false_implies, true_implies, Classical.not_not, ne_eq, reduceIte, Nat.reduceEqDiff, Nat.reduceLT, Nat.reduceLeDiff, Nat.reduceAdd, Nat.reduceSub, Nat.reduceMul, hv, h9, hgg, hcl, e7, e16, eg])
      refine ⟨fun h => absurd h (by omega), fun _ => ⟨by omega, by omega, fun h => ih (g + 1) (by omega) _ ?_, fun h => ⟨by omega, by omega, ih (g + 1) (by omega) _ ?_⟩⟩⟩
      · simp only [nw_old, if_neg (Int32.not_lt.mpr h)]
        exact hu
      · simp only [nw_old, if_pos (Int32.not_le.mp h)]
        rw [hu]
  rw [emSe_takeOldNumbers]
  (apply V_s1 [2] 4; simp only [nwx_0, nwx_S, nw_s1, nw_pII, nw_pA, nw_tIs, nw_vis, nw_jpx, Option.isSome_some, Option.getD_some, nw_popn, nw_rok, nw_wok, nw_isR, nw_cd, nw_at, nw_put, nw_nl0, nw_nlS, nw_no2s, nw_ft, nw_l01, nw_ak, nw_tsw, nw_flat, Value.category, List.mem_cons, List.not_mem_nil, List.length_cons, List.length_nil, or_false, false_or, or_true, true_or, and_true, true_and, and_false, false_and, if_true, if_false, Option.some.injEq, Prod.mk.injEq, and_assoc, exists_and_left, exists_eq_left, exists_eq_left', exists_const, nw_ks, nw_f4, nw_fvs, nw_some, Nat.reduceAdd, nw_sz_I, nw_kd_I, nw_ln_I, nw_rf_I, nw_L_I, nw_I_I, nw_sz_L, nw_kd_L, nw_ln_L, nw_rf_L, nw_I_L, nw_L_L, nw_ob_I, nw_ob_L, nw_obr_I, nw_obr_L, nI_add, nw_b0, nw_b1, nw_b01, not_false_eq_true, not_true_eq_false, false_implies, true_implies, Classical.not_not, nw_i10, decide_eq_false_iff_not, decide_eq_true_eq, ne_eq, Option.toList_some, Option.toList_none, List.cons_append, List.nil_append, reduceIte, Nat.reduceEqDiff, Nat.reduceLT, Nat.reduceLeDiff, Nat.reduceSub, Nat.reduceMul, reduceCtorEq, ↓nwx_iconst, ↓nwx_istore_n, dmSe_takeOldNumbers_0, rmSe_takeOldNumbers]; try simp (disch := omega) only [nw_b0, nw_b1, nw_ilt, nw_ile, nw_ieq, nw_icl, nw_iin, nI_add, and_true, true_and, and_false, false_and, not_false_eq_true, not_true_eq_false, false_implies, true_implies, Classical.not_not, ne_eq, reduceIte, Nat.reduceEqDiff, Nat.reduceLT, Nat.reduceLeDiff, Nat.reduceAdd, Nat.reduceSub, Nat.reduceMul])
  exact loop 6 0 rfl _ rfl
set_option maxRecDepth 20000 in
theorem c_Se_hold {i : Nat} (x p c : Int32) (hi : i ≤ 40) (hO : nw_Ok n w) (hs : s < n) : V mSe_hold 0 (nw_ent mSe_hold [.ref (nw_S n s 0), .int (nI i), .int x, .int p, .int c]) [] w 0 0 (nw_rw (nw_hold n s i x (nw_setI (nw_setI w (nw_S n s 17) (upd (nw_I w (nw_S n s 17)) i p)) (nw_S n s 16) (upd (nw_I w (nw_S n s 16)) i c)) 6)) := by
  have loop : ∀ (w : nw_W), nw_Ok n w → ∀ d g, g + d = 6 → ∀ u, u = nw_hold n s i x w g → V mSe_hold 18 [.ref (nw_S n s 0), .int (nI i), .int x, .int p, .int c, .int (nI g)] [] u 0 0 (nw_rw (nw_hold n s i x w 6)) := by
    intro w hO d
    induction d with
    | zero =>
      intro g hg u hu
      have hg : g = 6 := by omega
      subst hg
      (apply V_s1 [18] 37; simp only [nwx_0, nwx_S, nw_s1, nw_pII, nw_pA, nw_tIs, nw_vis, nw_jpx, Option.isSome_some, Option.getD_some, nw_popn, nw_rok, nw_wok, nw_isR, nw_cd, nw_at, nw_put, nw_nl0, nw_nlS, nw_no2s, nw_ft, nw_l01, nw_ak, nw_tsw, nw_flat, Value.category, List.mem_cons, List.not_mem_nil, List.length_cons, List.length_nil, or_false, false_or, or_true, true_or, and_true, true_and, and_false, false_and, if_true, if_false, Option.some.injEq, Prod.mk.injEq, and_assoc, exists_and_left, exists_eq_left, exists_eq_left', exists_const, nw_ks, nw_f4, nw_fvs, nw_some, Nat.reduceAdd, nw_sz_I, nw_kd_I, nw_ln_I, nw_rf_I, nw_L_I, nw_I_I, nw_sz_L, nw_kd_L, nw_ln_L, nw_rf_L, nw_I_L, nw_L_L, nw_ob_I, nw_ob_L, nw_obr_I, nw_obr_L, nI_add, nw_b0, nw_b1, nw_b01, not_false_eq_true, not_true_eq_false, false_implies, true_implies, Classical.not_not, nw_i10, decide_eq_false_iff_not, decide_eq_true_eq, ne_eq, Option.toList_some, Option.toList_none, List.cons_append, List.nil_append, reduceIte, Nat.reduceEqDiff, Nat.reduceLT, Nat.reduceLeDiff, Nat.reduceSub, Nat.reduceMul, reduceCtorEq, ↓nwx_aaload, ↓nwx_aload_n, ↓nwx_bipush, ↓nwx_dup2, ↓nwx_getfield, ↓nwx_goto, ↓nwx_iadd, ↓nwx_iaload, ↓nwx_iand, ↓nwx_iastore, ↓nwx_iconst, ↓nwx_ifCond, ↓nwx_if_icmp, ↓nwx_iinc, ↓nwx_iload, ↓nwx_iload_n, ↓nwx_ishr, ↓nwx_return_, dmSe_hold_0, dmSe_hold_1, rmSe_hold]; try simp (disch := omega) only [nw_b0, nw_b1, nw_ilt, nw_ile, nw_ieq, nw_icl, nw_iin, nI_add, and_true, true_and, and_false, false_and, not_false_eq_true, not_true_eq_false, false_implies, true_implies, Classical.not_not, ne_eq, reduceIte, Nat.reduceEqDiff, Nat.reduceLT, Nat.reduceLeDiff, Nat.reduceAdd, Nat.reduceSub, Nat.reduceMul])
      exact ⟨rfl, hu⟩
    | succ d ih =>
      intro g hg u hu
      obtain ⟨o1, o2, o3, o5, o4⟩ := nw_hold_ok n s i x w g (by omega)
      rw [← hu] at o1 o2 o3 o4 o5
      have hO' := nw_Ok_1 o1 hO
      have hv := nw_Ok_sv hO' hs
      have h9 := nw_Sv_9 hv
      unfold nw_Sv at hv
      have hgg := nw_Ok_sg hO' hs (show g < 6 by omega)
      unfold nw_Sg at hgg
      have hcl : (nI g).toNatClampNeg = g := nI_clamp (by omega)
      have e7 := o3 (nw_S n s 7) (by rw [Ne, nw_Sk]; omega) (fun g' hg' => by rw [Ne, nw_Sk]; omega)
      have eg := o3 (nw_S n s (10 + g)) (by rw [Ne, nw_Sk]; omega) (fun g' hg' => by rw [Ne, nw_Sk]; omega)
      have e8 : nw_I u (nw_S n s 8) g = nw_I w (nw_S n s 8) g := by rw [o5 g, if_neg (by omega)]
      have ne : ¬ (10 + g = 8) := by omega
      (apply V_s1 [18] 37; simp only [nwx_0, nwx_S, nw_s1, nw_pII, nw_pA, nw_tIs, nw_vis, nw_jpx, Option.isSome_some, Option.getD_some, nw_popn, nw_rok, nw_wok, nw_isR, nw_cd, nw_at, nw_put, nw_nl0, nw_nlS, nw_no2s, nw_ft, nw_l01, nw_ak, nw_tsw, nw_flat, Value.category, List.mem_cons, List.not_mem_nil, List.length_cons, List.length_nil, or_false, false_or, or_true, true_or, and_true, true_and, and_false, false_and, if_true, if_false, Option.some.injEq, Prod.mk.injEq, and_assoc, exists_and_left, exists_eq_left, exists_eq_left', exists_const, nw_ks, nw_f4, nw_fvs, nw_some, Nat.reduceAdd, nw_sz_I, nw_kd_I, nw_ln_I, nw_rf_I, nw_L_I, nw_I_I, nw_sz_L, nw_kd_L, nw_ln_L, nw_rf_L, nw_I_L, nw_L_L, nw_ob_I, nw_ob_L, nw_obr_I, nw_obr_L, nI_add, nw_b0, nw_b1, nw_b01, not_false_eq_true, not_true_eq_false, false_implies, true_implies, Classical.not_not, nw_i10, decide_eq_false_iff_not, decide_eq_true_eq, ne_eq, Option.toList_some, Option.toList_none, List.cons_append, List.nil_append, reduceIte, Nat.reduceEqDiff, Nat.reduceLT, Nat.reduceLeDiff, Nat.reduceSub, Nat.reduceMul, reduceCtorEq, ↓nwx_aaload, ↓nwx_aload_n, ↓nwx_bipush, ↓nwx_dup2, ↓nwx_getfield, ↓nwx_goto, ↓nwx_iadd, ↓nwx_iaload, ↓nwx_iand, ↓nwx_iastore, ↓nwx_iconst, ↓nwx_ifCond, ↓nwx_if_icmp, ↓nwx_iinc, ↓nwx_iload, ↓nwx_iload_n, ↓nwx_ishr, ↓nwx_return_, dmSe_hold_0, dmSe_hold_1, rmSe_hold, hv, h9, hgg, hcl, e7, eg, e8, nw_bit, va_up, nw_Sk, ne, pk_us]; try simp (disch := omega) only [nw_b0, nw_b1, nw_ilt, nw_ile, nw_ieq, nw_icl, nw_iin, nI_add, and_true, true_and, and_false, false_and, not_false_eq_true, not_true_eq_false, false_implies, true_implies, Classical.not_not, ne_eq, reduceIte, Nat.reduceEqDiff, Nat.reduceLT, Nat.reduceLeDiff, Nat.reduceAdd, Nat.reduceSub, Nat.reduceMul, hv, h9, hgg, hcl, e7, eg, e8, nw_bit, va_up, nw_Sk, ne, pk_us])
      refine ⟨fun h => absurd h (by omega), fun _ => ⟨fun h => ih (g + 1) (by omega) _ ?_, fun h => ⟨by omega, fun h2 => ih (g + 1) (by omega) _ ?_, fun h2 => ⟨by omega, by omega, by omega, by omega, by omega, ih (g + 1) (by omega) _ ?_⟩⟩⟩⟩
      · simp only [nw_hold]
        rw [if_neg (fun q => by rw [h] at q; exact absurd q.1 (by decide))]
        exact hu
      · simp only [nw_hold]
        rw [if_neg (fun q => absurd q.2 (Int32.not_lt.mpr h2))]
        exact hu
      · simp only [nw_hold]
        rw [if_pos ⟨by simpa using h, Int32.not_le.mp h2⟩, ← hu]
  have hv := nw_Ok_sv hO hs
  unfold nw_Sv at hv
  rw [emSe_hold]
  (apply V_s1 [18] 14; simp only [nwx_0, nwx_S, nw_s1, nw_pII, nw_pA, nw_tIs, nw_vis, nw_jpx, Option.isSome_some, Option.getD_some, nw_popn, nw_rok, nw_wok, nw_isR, nw_cd, nw_at, nw_put, nw_nl0, nw_nlS, nw_no2s, nw_ft, nw_l01, nw_ak, nw_tsw, nw_flat, Value.category, List.mem_cons, List.not_mem_nil, List.length_cons, List.length_nil, or_false, false_or, or_true, true_or, and_true, true_and, and_false, false_and, if_true, if_false, Option.some.injEq, Prod.mk.injEq, and_assoc, exists_and_left, exists_eq_left, exists_eq_left', exists_const, nw_ks, nw_f4, nw_fvs, nw_some, Nat.reduceAdd, nw_sz_I, nw_kd_I, nw_ln_I, nw_rf_I, nw_L_I, nw_I_I, nw_sz_L, nw_kd_L, nw_ln_L, nw_rf_L, nw_I_L, nw_L_L, nw_ob_I, nw_ob_L, nw_obr_I, nw_obr_L, nI_add, nw_b0, nw_b1, nw_b01, not_false_eq_true, not_true_eq_false, false_implies, true_implies, Classical.not_not, nw_i10, decide_eq_false_iff_not, decide_eq_true_eq, ne_eq, Option.toList_some, Option.toList_none, List.cons_append, List.nil_append, reduceIte, Nat.reduceEqDiff, Nat.reduceLT, Nat.reduceLeDiff, Nat.reduceSub, Nat.reduceMul, reduceCtorEq, ↓nwx_aload_n, ↓nwx_getfield, ↓nwx_iastore, ↓nwx_iconst, ↓nwx_iload, ↓nwx_iload_n, ↓nwx_istore, dmSe_hold_0, rmSe_hold, hv, va_up, nw_Sk]; try simp (disch := omega) only [nw_b0, nw_b1, nw_ilt, nw_ile, nw_ieq, nw_icl, nw_iin, nI_add, and_true, true_and, and_false, false_and, not_false_eq_true, not_true_eq_false, false_implies, true_implies, Classical.not_not, ne_eq, reduceIte, Nat.reduceEqDiff, Nat.reduceLT, Nat.reduceLeDiff, Nat.reduceAdd, Nat.reduceSub, Nat.reduceMul, hv, va_up, nw_Sk])
  exact ⟨by omega, by omega, loop (nw_setI (nw_setI w (nw_S n s 17) (upd (nw_I w (nw_S n s 17)) i p)) (nw_S n s 16) (upd (nw_I w (nw_S n s 16)) i c)) (nw_Ok_1 rfl hO) 6 0 rfl _ rfl⟩
set_option maxRecDepth 20000 in
theorem c_Se_beginIntake {m c : Nat} (id p sd : Int32) (hm : 1 ≤ m) (hm2 : m ≤ 24) (hc : c + m ≤ 24) (hr : nw_room (nw_fr0 (nw_I w (nw_S n s 2))) m (nI c)) (hO : nw_Ok n w) (hs : s < n) : V mSe_beginIntake 0 (nw_ent mSe_beginIntake [.ref (nw_S n s 0), .int id, .int (nI m), .int p, .int sd]) [] w 0 0 (nw_rw (nw_setI (nw_setI w (nw_S n s 2) (fun x => if c ≤ x ∧ x < c + m then id else nw_I w (nw_S n s 2) x)) (nw_S n s 6) (upd (upd (upd (upd (nw_I w (nw_S n s 6)) 0 id) 1 (nI m)) 2 p) 3 sd))) := by
  have hv := nw_Ok_sv hO hs
  unfold nw_Sv at hv
  rw [emSe_beginIntake]
  (apply V_s1 [] 7; simp only [nwx_0, nwx_S, nw_s1, nw_pII, nw_pA, nw_tIs, nw_vis, nw_jpx, Option.isSome_some, Option.getD_some, nw_popn, nw_rok, nw_wok, nw_isR, nw_cd, nw_at, nw_put, nw_nl0, nw_nlS, nw_no2s, nw_ft, nw_l01, nw_ak, nw_tsw, nw_flat, Value.category, List.mem_cons, List.not_mem_nil, List.length_cons, List.length_nil, or_false, false_or, or_true, true_or, and_true, true_and, and_false, false_and, if_true, if_false, Option.some.injEq, Prod.mk.injEq, and_assoc, exists_and_left, exists_eq_left, exists_eq_left', exists_const, nw_ks, nw_f4, nw_fvs, nw_some, Nat.reduceAdd, nw_sz_I, nw_kd_I, nw_ln_I, nw_rf_I, nw_L_I, nw_I_I, nw_sz_L, nw_kd_L, nw_ln_L, nw_rf_L, nw_I_L, nw_L_L, nw_ob_I, nw_ob_L, nw_obr_I, nw_obr_L, nI_add, nw_b0, nw_b1, nw_b01, not_false_eq_true, not_true_eq_false, false_implies, true_implies, Classical.not_not, nw_i10, decide_eq_false_iff_not, decide_eq_true_eq, ne_eq, Option.toList_some, Option.toList_none, List.cons_append, List.nil_append, reduceIte, Nat.reduceEqDiff, Nat.reduceLT, Nat.reduceLeDiff, Nat.reduceSub, Nat.reduceMul, reduceCtorEq, ↓nwx_aload_n, ↓nwx_getfield, ↓nwx_iload_n, ↓nwx_invokevirtual, dmSe_beginIntake_0, rmSe_beginIntake, hv]; try simp (disch := omega) only [nw_b0, nw_b1, nw_ilt, nw_ile, nw_ieq, nw_icl, nw_iin, nI_add, and_true, true_and, and_false, false_and, not_false_eq_true, not_true_eq_false, false_implies, true_implies, Classical.not_not, ne_eq, reduceIte, Nat.reduceEqDiff, Nat.reduceLT, Nat.reduceLeDiff, Nat.reduceAdd, Nat.reduceSub, Nat.reduceMul, hv])
  refine nw_do0 (c_Sp_take (o := nw_S n s 2) id hm hm2 hc hr hv.2.2.2.2.2.2.2.2.2.2.2.1 hv.2.2.2.2.2.2.2.2.2.2.2.2.1 hv.2.2.2.2.2.2.2.2.2.2.2.2.2.1 hv.2.2.2.2.2.2.2.2.2.2.2.2.2.2.1) ?_
  rintro r w' ⟨rfl, rfl⟩
  (apply V_s1 [] 9; simp only [nwx_0, nwx_S, nw_s1, nw_pII, nw_pA, nw_tIs, nw_vis, nw_jpx, Option.isSome_some, Option.getD_some, nw_popn, nw_rok, nw_wok, nw_isR, nw_cd, nw_at, nw_put, nw_nl0, nw_nlS, nw_no2s, nw_ft, nw_l01, nw_ak, nw_tsw, nw_flat, Value.category, List.mem_cons, List.not_mem_nil, List.length_cons, List.length_nil, or_false, false_or, or_true, true_or, and_true, true_and, and_false, false_and, if_true, if_false, Option.some.injEq, Prod.mk.injEq, and_assoc, exists_and_left, exists_eq_left, exists_eq_left', exists_const, nw_ks, nw_f4, nw_fvs, nw_some, Nat.reduceAdd, nw_sz_I, nw_kd_I, nw_ln_I, nw_rf_I, nw_L_I, nw_I_I, nw_sz_L, nw_kd_L, nw_ln_L, nw_rf_L, nw_I_L, nw_L_L, nw_ob_I, nw_ob_L, nw_obr_I, nw_obr_L, nI_add, nw_b0, nw_b1, nw_b01, not_false_eq_true, not_true_eq_false, false_implies, true_implies, Classical.not_not, nw_i10, decide_eq_false_iff_not, decide_eq_true_eq, ne_eq, Option.toList_some, Option.toList_none, List.cons_append, List.nil_append, reduceIte, Nat.reduceEqDiff, Nat.reduceLT, Nat.reduceLeDiff, Nat.reduceSub, Nat.reduceMul, reduceCtorEq, ↓nwx_aload_n, ↓nwx_getfield, ↓nwx_iload, ↓nwx_iload_n, ↓nwx_invokevirtual, dmSe_beginIntake_0, rmSe_beginIntake, hv]; try simp (disch := omega) only [nw_b0, nw_b1, nw_ilt, nw_ile, nw_ieq, nw_icl, nw_iin, nI_add, and_true, true_and, and_false, false_and, not_false_eq_true, not_true_eq_false, false_implies, true_implies, Classical.not_not, ne_eq, reduceIte, Nat.reduceEqDiff, Nat.reduceLT, Nat.reduceLeDiff, Nat.reduceAdd, Nat.reduceSub, Nat.reduceMul, hv])
  refine nw_do0 (c_In_open _ _ _ _ hv.2.2.2.2.2.2.2.2.2.2.2.2.2.2.2.2.2.2.2.2.2.2.1) ?_
  rintro r w' ⟨rfl, rfl⟩
  (apply V_s1 [] 3; simp only [nwx_0, nwx_S, nw_s1, nw_pII, nw_pA, nw_tIs, nw_vis, nw_jpx, Option.isSome_some, Option.getD_some, nw_popn, nw_rok, nw_wok, nw_isR, nw_cd, nw_at, nw_put, nw_nl0, nw_nlS, nw_no2s, nw_ft, nw_l01, nw_ak, nw_tsw, nw_flat, Value.category, List.mem_cons, List.not_mem_nil, List.length_cons, List.length_nil, or_false, false_or, or_true, true_or, and_true, true_and, and_false, false_and, if_true, if_false, Option.some.injEq, Prod.mk.injEq, and_assoc, exists_and_left, exists_eq_left, exists_eq_left', exists_const, nw_ks, nw_f4, nw_fvs, nw_some, Nat.reduceAdd, nw_sz_I, nw_kd_I, nw_ln_I, nw_rf_I, nw_L_I, nw_I_I, nw_sz_L, nw_kd_L, nw_ln_L, nw_rf_L, nw_I_L, nw_L_L, nw_ob_I, nw_ob_L, nw_obr_I, nw_obr_L, nI_add, nw_b0, nw_b1, nw_b01, not_false_eq_true, not_true_eq_false, false_implies, true_implies, Classical.not_not, nw_i10, decide_eq_false_iff_not, decide_eq_true_eq, ne_eq, Option.toList_some, Option.toList_none, List.cons_append, List.nil_append, reduceIte, Nat.reduceEqDiff, Nat.reduceLT, Nat.reduceLeDiff, Nat.reduceSub, Nat.reduceMul, reduceCtorEq, ↓nwx_return_, dmSe_beginIntake_0, rmSe_beginIntake, va_up, nw_Sk]; try simp (disch := omega) only [nw_b0, nw_b1, nw_ilt, nw_ile, nw_ieq, nw_icl, nw_iin, nI_add, and_true, true_and, and_false, false_and, not_false_eq_true, not_true_eq_false, false_implies, true_implies, Classical.not_not, ne_eq, reduceIte, Nat.reduceEqDiff, Nat.reduceLT, Nat.reduceLeDiff, Nat.reduceAdd, Nat.reduceSub, Nat.reduceMul, va_up, nw_Sk])
  exact ⟨rfl, rfl⟩
set_option maxRecDepth 20000 in
theorem c_Se_loseIntake (hO : nw_Ok n w) (hs : s < n) : V mSe_loseIntake 0 (nw_ent mSe_loseIntake [.ref (nw_S n s 0)]) [] w 0 0 (nw_rw (nw_setI (nw_setI w (nw_S n s 2) (fun x => if x < 24 ∧ nw_I w (nw_S n s 2) x = nw_I w (nw_S n s 6) 0 then nI 0 else nw_I w (nw_S n s 2) x)) (nw_S n s 6) (upd (upd (upd (upd (nw_I w (nw_S n s 6)) 0 (nI 0)) 1 (nI 0)) 2 (nI 0)) 3 (-1)))) := by
  have hv := nw_Ok_sv hO hs
  unfold nw_Sv at hv
  rw [emSe_loseIntake]
  (apply V_s1 [] 8; simp only [nwx_0, nwx_S, nw_s1, nw_pII, nw_pA, nw_tIs, nw_vis, nw_jpx, Option.isSome_some, Option.getD_some, nw_popn, nw_rok, nw_wok, nw_isR, nw_cd, nw_at, nw_put, nw_nl0, nw_nlS, nw_no2s, nw_ft, nw_l01, nw_ak, nw_tsw, nw_flat, Value.category, List.mem_cons, List.not_mem_nil, List.length_cons, List.length_nil, or_false, false_or, or_true, true_or, and_true, true_and, and_false, false_and, if_true, if_false, Option.some.injEq, Prod.mk.injEq, and_assoc, exists_and_left, exists_eq_left, exists_eq_left', exists_const, nw_ks, nw_f4, nw_fvs, nw_some, Nat.reduceAdd, nw_sz_I, nw_kd_I, nw_ln_I, nw_rf_I, nw_L_I, nw_I_I, nw_sz_L, nw_kd_L, nw_ln_L, nw_rf_L, nw_I_L, nw_L_L, nw_ob_I, nw_ob_L, nw_obr_I, nw_obr_L, nI_add, nw_b0, nw_b1, nw_b01, not_false_eq_true, not_true_eq_false, false_implies, true_implies, Classical.not_not, nw_i10, decide_eq_false_iff_not, decide_eq_true_eq, ne_eq, Option.toList_some, Option.toList_none, List.cons_append, List.nil_append, reduceIte, Nat.reduceEqDiff, Nat.reduceLT, Nat.reduceLeDiff, Nat.reduceSub, Nat.reduceMul, reduceCtorEq, ↓nwx_aload_n, ↓nwx_getfield, ↓nwx_invokevirtual, dmSe_loseIntake_0, rmSe_loseIntake, hv]; try simp (disch := omega) only [nw_b0, nw_b1, nw_ilt, nw_ile, nw_ieq, nw_icl, nw_iin, nI_add, and_true, true_and, and_false, false_and, not_false_eq_true, not_true_eq_false, false_implies, true_implies, Classical.not_not, ne_eq, reduceIte, Nat.reduceEqDiff, Nat.reduceLT, Nat.reduceLeDiff, Nat.reduceAdd, Nat.reduceSub, Nat.reduceMul, hv])
  refine nw_do0 (c_Sp_release (o := nw_S n s 2) _ hv.2.2.2.2.2.2.2.2.2.2.2.1 hv.2.2.2.2.2.2.2.2.2.2.2.2.1 hv.2.2.2.2.2.2.2.2.2.2.2.2.2.1 hv.2.2.2.2.2.2.2.2.2.2.2.2.2.2.1) ?_
  rintro r w' ⟨rfl, rfl⟩
  (apply V_s1 [] 5; simp only [nwx_0, nwx_S, nw_s1, nw_pII, nw_pA, nw_tIs, nw_vis, nw_jpx, Option.isSome_some, Option.getD_some, nw_popn, nw_rok, nw_wok, nw_isR, nw_cd, nw_at, nw_put, nw_nl0, nw_nlS, nw_no2s, nw_ft, nw_l01, nw_ak, nw_tsw, nw_flat, Value.category, List.mem_cons, List.not_mem_nil, List.length_cons, List.length_nil, or_false, false_or, or_true, true_or, and_true, true_and, and_false, false_and, if_true, if_false, Option.some.injEq, Prod.mk.injEq, and_assoc, exists_and_left, exists_eq_left, exists_eq_left', exists_const, nw_ks, nw_f4, nw_fvs, nw_some, Nat.reduceAdd, nw_sz_I, nw_kd_I, nw_ln_I, nw_rf_I, nw_L_I, nw_I_I, nw_sz_L, nw_kd_L, nw_ln_L, nw_rf_L, nw_I_L, nw_L_L, nw_ob_I, nw_ob_L, nw_obr_I, nw_obr_L, nI_add, nw_b0, nw_b1, nw_b01, not_false_eq_true, not_true_eq_false, false_implies, true_implies, Classical.not_not, nw_i10, decide_eq_false_iff_not, decide_eq_true_eq, ne_eq, Option.toList_some, Option.toList_none, List.cons_append, List.nil_append, reduceIte, Nat.reduceEqDiff, Nat.reduceLT, Nat.reduceLeDiff, Nat.reduceSub, Nat.reduceMul, reduceCtorEq, ↓nwx_aload_n, ↓nwx_getfield, ↓nwx_invokevirtual, dmSe_loseIntake_0, rmSe_loseIntake, hv]; try simp (disch := omega) only [nw_b0, nw_b1, nw_ilt, nw_ile, nw_ieq, nw_icl, nw_iin, nI_add, and_true, true_and, and_false, false_and, not_false_eq_true, not_true_eq_false, false_implies, true_implies, Classical.not_not, ne_eq, reduceIte, Nat.reduceEqDiff, Nat.reduceLT, Nat.reduceLeDiff, Nat.reduceAdd, Nat.reduceSub, Nat.reduceMul, hv])
  refine nw_do0 (c_In_close hv.2.2.2.2.2.2.2.2.2.2.2.2.2.2.2.2.2.2.2.2.2.2.1) ?_
  rintro r w' ⟨rfl, rfl⟩
  (apply V_s1 [] 3; simp only [nwx_0, nwx_S, nw_s1, nw_pII, nw_pA, nw_tIs, nw_vis, nw_jpx, Option.isSome_some, Option.getD_some, nw_popn, nw_rok, nw_wok, nw_isR, nw_cd, nw_at, nw_put, nw_nl0, nw_nlS, nw_no2s, nw_ft, nw_l01, nw_ak, nw_tsw, nw_flat, Value.category, List.mem_cons, List.not_mem_nil, List.length_cons, List.length_nil, or_false, false_or, or_true, true_or, and_true, true_and, and_false, false_and, if_true, if_false, Option.some.injEq, Prod.mk.injEq, and_assoc, exists_and_left, exists_eq_left, exists_eq_left', exists_const, nw_ks, nw_f4, nw_fvs, nw_some, Nat.reduceAdd, nw_sz_I, nw_kd_I, nw_ln_I, nw_rf_I, nw_L_I, nw_I_I, nw_sz_L, nw_kd_L, nw_ln_L, nw_rf_L, nw_I_L, nw_L_L, nw_ob_I, nw_ob_L, nw_obr_I, nw_obr_L, nI_add, nw_b0, nw_b1, nw_b01, not_false_eq_true, not_true_eq_false, false_implies, true_implies, Classical.not_not, nw_i10, decide_eq_false_iff_not, decide_eq_true_eq, ne_eq, Option.toList_some, Option.toList_none, List.cons_append, List.nil_append, reduceIte, Nat.reduceEqDiff, Nat.reduceLT, Nat.reduceLeDiff, Nat.reduceSub, Nat.reduceMul, reduceCtorEq, ↓nwx_return_, dmSe_loseIntake_0, rmSe_loseIntake, va_up, nw_Sk]; try simp (disch := omega) only [nw_b0, nw_b1, nw_ilt, nw_ile, nw_ieq, nw_icl, nw_iin, nI_add, and_true, true_and, and_false, false_and, not_false_eq_true, not_true_eq_false, false_implies, true_implies, Classical.not_not, ne_eq, reduceIte, Nat.reduceEqDiff, Nat.reduceLT, Nat.reduceLeDiff, Nat.reduceAdd, Nat.reduceSub, Nat.reduceMul, va_up, nw_Sk])
  exact ⟨rfl, rfl⟩
set_option maxRecDepth 20000 in
theorem c_Se_removeArticle {i : Nat} (x : Int32) (hi : i ≤ 40) (hq : ∀ t, t < n → ∃ q, q ≤ 24 ∧ nw_I w (nw_S n s (20 + 2 * t)) 1 = nI q) (hO : nw_Ok n w) (hs : s < n) : V mSe_removeArticle 0 (nw_ent mSe_removeArticle [.ref (nw_S n s 0), .int (nI i), .int x]) [] w 0 0 (fun r w' => r = none ∧ nw_rmA n s i x w w') := by
  unfold nw_rmA
  generalize hw1 : nw_setI (nw_setI w (nw_S n s 4) (upd (nw_I w (nw_S n s 4)) i x)) (nw_S n s 2) (fun b => if b < 24 ∧ nw_I w (nw_S n s 2) b = nI i then nI 0 else nw_I w (nw_S n s 2) b) = w1
  have hO1 : nw_Ok n w1 := by rw [← hw1]; exact nw_Ok_1 rfl hO
  have hq1 : ∀ t, t < n → ∃ q, q ≤ 24 ∧ nw_I (nw_zr n s i w1 6) (nw_S n s (20 + 2 * t)) 1 = nI q := fun t ht => by
    obtain ⟨q, h1, h2⟩ := hq t ht
    refine ⟨q, h1, ?_⟩
    rw [(nw_zr_ok n s i w1 6 (by omega)).2.2.1 _ (fun g hg => by rw [Ne, nw_Sk]; omega), ← hw1, nw_S_Ine (by omega), nw_S_Ine (by omega)]
    exact h2
  have hn4 : n ≤ 4 := hO.2.1
  have loop2 : ∀ d t, t + d = n → ∀ u, nw_bo n s (nI i) t (nw_zr n s i w1 6) u → V mSe_removeArticle 43 [.ref (nw_S n s 0), .int (nI i), .int x, .int (nI t)] [] u 0 0 (fun r w' => r = none ∧ nw_bo n s (nI i) n (nw_zr n s i w1 6) w') := by
    intro d
    induction d with
    | zero =>
      intro t ht u hu
      have ht : t = n := by omega
      subst ht
      have hO' : nw_Ok t u := nw_Ok_1 (hu.1.trans (nw_zr_ok t s i w1 6 (by omega)).1) hO1
      have hv := nw_Ok_sv hO' hs
      have h9 := nw_Sv_9 hv
      unfold nw_Sv at hv
      (apply V_s1 [43] 14; simp only [nwx_0, nwx_S, nw_s1, nw_pII, nw_pA, nw_tIs, nw_vis, nw_jpx, Option.isSome_some, Option.getD_some, nw_popn, nw_rok, nw_wok, nw_isR, nw_cd, nw_at, nw_put, nw_nl0, nw_nlS, nw_no2s, nw_ft, nw_l01, nw_ak, nw_tsw, nw_flat, Value.category, List.mem_cons, List.not_mem_nil, List.length_cons, List.length_nil, or_false, false_or, or_true, true_or, and_true, true_and, and_false, false_and, if_true, if_false, Option.some.injEq, Prod.mk.injEq, and_assoc, exists_and_left, exists_eq_left, exists_eq_left', exists_const, nw_ks, nw_f4, nw_fvs, nw_some, Nat.reduceAdd, nw_sz_I, nw_kd_I, nw_ln_I, nw_rf_I, nw_L_I, nw_I_I, nw_sz_L, nw_kd_L, nw_ln_L, nw_rf_L, nw_I_L, nw_L_L, nw_ob_I, nw_ob_L, nw_obr_I, nw_obr_L, nI_add, nw_b0, nw_b1, nw_b01, not_false_eq_true, not_true_eq_false, false_implies, true_implies, Classical.not_not, nw_i10, decide_eq_false_iff_not, decide_eq_true_eq, ne_eq, Option.toList_some, Option.toList_none, List.cons_append, List.nil_append, reduceIte, Nat.reduceEqDiff, Nat.reduceLT, Nat.reduceLeDiff, Nat.reduceSub, Nat.reduceMul, reduceCtorEq, ↓nwx_aaload, ↓nwx_aload_n, ↓nwx_arraylength, ↓nwx_getfield, ↓nwx_if_icmp, ↓nwx_iload_n, ↓nwx_invokevirtual, ↓nwx_return_, dmSe_removeArticle_0, rmSe_removeArticle, hv, h9]; try simp (disch := omega) only [nw_b0, nw_b1, nw_ilt, nw_ile, nw_ieq, nw_icl, nw_iin, nI_add, and_true, true_and, and_false, false_and, not_false_eq_true, not_true_eq_false, false_implies, true_implies, Classical.not_not, ne_eq, reduceIte, Nat.reduceEqDiff, Nat.reduceLT, Nat.reduceLeDiff, Nat.reduceAdd, Nat.reduceSub, Nat.reduceMul, hv, h9])
      exact br_t (Nat.le_refl _) hu
    | succ d ih =>
      intro t ht u hu
      have hO' : nw_Ok n u := nw_Ok_1 (hu.1.trans (nw_zr_ok n s i w1 6 (by omega)).1) hO1
      have hv := nw_Ok_sv hO' hs
      have h9 := nw_Sv_9 hv
      unfold nw_Sv at hv
      have htt := nw_Ok_st hO' hs (show t < n by omega)
      unfold nw_St at htt
      have hcl : (nI t).toNatClampNeg = t := nI_clamp (by omega)
      (apply V_s1 [43] 14; simp only [nwx_0, nwx_S, nw_s1, nw_pII, nw_pA, nw_tIs, nw_vis, nw_jpx, Option.isSome_some, Option.getD_some, nw_popn, nw_rok, nw_wok, nw_isR, nw_cd, nw_at, nw_put, nw_nl0, nw_nlS, nw_no2s, nw_ft, nw_l01, nw_ak, nw_tsw, nw_flat, Value.category, List.mem_cons, List.not_mem_nil, List.length_cons, List.length_nil, or_false, false_or, or_true, true_or, and_true, true_and, and_false, false_and, if_true, if_false, Option.some.injEq, Prod.mk.injEq, and_assoc, exists_and_left, exists_eq_left, exists_eq_left', exists_const, nw_ks, nw_f4, nw_fvs, nw_some, Nat.reduceAdd, nw_sz_I, nw_kd_I, nw_ln_I, nw_rf_I, nw_L_I, nw_I_I, nw_sz_L, nw_kd_L, nw_ln_L, nw_rf_L, nw_I_L, nw_L_L, nw_ob_I, nw_ob_L, nw_obr_I, nw_obr_L, nI_add, nw_b0, nw_b1, nw_b01, not_false_eq_true, not_true_eq_false, false_implies, true_implies, Classical.not_not, nw_i10, decide_eq_false_iff_not, decide_eq_true_eq, ne_eq, Option.toList_some, Option.toList_none, List.cons_append, List.nil_append, reduceIte, Nat.reduceEqDiff, Nat.reduceLT, Nat.reduceLeDiff, Nat.reduceSub, Nat.reduceMul, reduceCtorEq, ↓nwx_aaload, ↓nwx_aload_n, ↓nwx_arraylength, ↓nwx_getfield, ↓nwx_if_icmp, ↓nwx_iload_n, ↓nwx_invokevirtual, ↓nwx_return_, dmSe_removeArticle_0, rmSe_removeArticle, hv, h9, htt, hcl]; try simp (disch := omega) only [nw_b0, nw_b1, nw_ilt, nw_ile, nw_ieq, nw_icl, nw_iin, nI_add, and_true, true_and, and_false, false_and, not_false_eq_true, not_true_eq_false, false_implies, true_implies, Classical.not_not, ne_eq, reduceIte, Nat.reduceEqDiff, Nat.reduceLT, Nat.reduceLeDiff, Nat.reduceAdd, Nat.reduceSub, Nat.reduceMul, hv, h9, htt, hcl])
      refine br_f (by omega) ⟨by omega, ?_⟩
      obtain ⟨q, hq2, hq3⟩ := hq1 t (by omega)
      have e20 := hu.2.2.1 (nw_S n s (20 + 2 * t)) (fun t' ht' => by rw [Ne, Ne, nw_Sk, nw_Sk]; omega)
      have e21 := hu.2.2.1 (nw_S n s (21 + 2 * t)) (fun t' ht' => by rw [Ne, Ne, nw_Sk, nw_Sk]; omega)
      refine nw_do0 (c_Ba_remove (q := q) (nI i) hq2 htt.2.1 htt.2.2.1 htt.2.2.2.1 htt.2.2.2.2 (by rw [e20]; exact hq3) (by rw [nw_Sk]; omega)) ?_
      rintro r w' ⟨rfl, f, c, rfl, hf⟩
      (apply V_s1 [43] 4; simp only [nwx_0, nwx_S, nw_s1, nw_pII, nw_pA, nw_tIs, nw_vis, nw_jpx, Option.isSome_some, Option.getD_some, nw_popn, nw_rok, nw_wok, nw_isR, nw_cd, nw_at, nw_put, nw_nl0, nw_nlS, nw_no2s, nw_ft, nw_l01, nw_ak, nw_tsw, nw_flat, Value.category, List.mem_cons, List.not_mem_nil, List.length_cons, List.length_nil, or_false, false_or, or_true, true_or, and_true, true_and, and_false, false_and, if_true, if_false, Option.some.injEq, Prod.mk.injEq, and_assoc, exists_and_left, exists_eq_left, exists_eq_left', exists_const, nw_ks, nw_f4, nw_fvs, nw_some, Nat.reduceAdd, nw_sz_I, nw_kd_I, nw_ln_I, nw_rf_I, nw_L_I, nw_I_I, nw_sz_L, nw_kd_L, nw_ln_L, nw_rf_L, nw_I_L, nw_L_L, nw_ob_I, nw_ob_L, nw_obr_I, nw_obr_L, nI_add, nw_b0, nw_b1, nw_b01, not_false_eq_true, not_true_eq_false, false_implies, true_implies, Classical.not_not, nw_i10, decide_eq_false_iff_not, decide_eq_true_eq, ne_eq, Option.toList_some, Option.toList_none, List.cons_append, List.nil_append, reduceIte, Nat.reduceEqDiff, Nat.reduceLT, Nat.reduceLeDiff, Nat.reduceSub, Nat.reduceMul, reduceCtorEq, ↓nwx_goto, ↓nwx_iinc, dmSe_removeArticle_0, rmSe_removeArticle]; try simp (disch := omega) only [nw_b0, nw_b1, nw_ilt, nw_ile, nw_ieq, nw_icl, nw_iin, nI_add, and_true, true_and, and_false, false_and, not_false_eq_true, not_true_eq_false, false_implies, true_implies, Classical.not_not, ne_eq, reduceIte, Nat.reduceEqDiff, Nat.reduceLT, Nat.reduceLeDiff, Nat.reduceAdd, Nat.reduceSub, Nat.reduceMul])
      refine ih (t + 1) (by omega) _ ⟨hu.1, hu.2.1, fun a ha => ?_, fun t' ht' q' hq' he => ?_⟩
      · rw [nw_I_I, va_up_ne _ _ (ha t (by omega)).1, nw_I_I, va_up_ne _ _ (ha t (by omega)).2]
        exact hu.2.2.1 a (fun t' h => ha t' (by omega))
      · by_cases htt' : t' = t
        · subst htt'
          have : q' = q := by
            rw [hq3, nI_eq (by omega) (by omega)] at he
            exact he.symm
          subst this
          refine ⟨c, by rw [nw_S_Ieq, pk_us], ?_⟩
          rw [nw_S_Ine (by omega), nw_S_Ieq, hf, e21]
        · obtain ⟨c', h1, h2⟩ := hu.2.2.2 t' (by omega) q' hq' he
          refine ⟨c', ?_, ?_⟩
          · rw [nw_S_Ine (by omega), nw_S_Ine (by omega)]
            exact h1
          · rw [nw_S_Ine (by omega), nw_S_Ine (by omega)]
            exact h2
  have loop : ∀ d g, g + d = 6 → ∀ u, u = nw_zr n s i w1 g → V mSe_removeArticle 20 [.ref (nw_S n s 0), .int (nI i), .int x, .int (nI g)] [] u 0 0 (fun r w' => r = none ∧ nw_bo n s (nI i) n (nw_zr n s i w1 6) w') := by
    intro d
    induction d with
    | zero =>
      intro g hg u hu
      have hg : g = 6 := by omega
      subst hg
      (apply V_s1 [20, 43] 16; simp only [nwx_0, nwx_S, nw_s1, nw_pII, nw_pA, nw_tIs, nw_vis, nw_jpx, Option.isSome_some, Option.getD_some, nw_popn, nw_rok, nw_wok, nw_isR, nw_cd, nw_at, nw_put, nw_nl0, nw_nlS, nw_no2s, nw_ft, nw_l01, nw_ak, nw_tsw, nw_flat, Value.category, List.mem_cons, List.not_mem_nil, List.length_cons, List.length_nil, or_false, false_or, or_true, true_or, and_true, true_and, and_false, false_and, if_true, if_false, Option.some.injEq, Prod.mk.injEq, and_assoc, exists_and_left, exists_eq_left, exists_eq_left', exists_const, nw_ks, nw_f4, nw_fvs, nw_some, Nat.reduceAdd, nw_sz_I, nw_kd_I, nw_ln_I, nw_rf_I, nw_L_I, nw_I_I, nw_sz_L, nw_kd_L, nw_ln_L, nw_rf_L, nw_I_L, nw_L_L, nw_ob_I, nw_ob_L, nw_obr_I, nw_obr_L, nI_add, nw_b0, nw_b1, nw_b01, not_false_eq_true, not_true_eq_false, false_implies, true_implies, Classical.not_not, nw_i10, decide_eq_false_iff_not, decide_eq_true_eq, ne_eq, Option.toList_some, Option.toList_none, List.cons_append, List.nil_append, reduceIte, Nat.reduceEqDiff, Nat.reduceLT, Nat.reduceLeDiff, Nat.reduceSub, Nat.reduceMul, reduceCtorEq, ↓nwx_aaload, ↓nwx_aload_n, ↓nwx_bipush, ↓nwx_getfield, ↓nwx_goto, ↓nwx_iastore, ↓nwx_iconst, ↓nwx_if_icmp, ↓nwx_iinc, ↓nwx_iload_n, ↓nwx_istore_n, dmSe_removeArticle_0, rmSe_removeArticle]; try simp (disch := omega) only [nw_b0, nw_b1, nw_ilt, nw_ile, nw_ieq, nw_icl, nw_iin, nI_add, and_true, true_and, and_false, false_and, not_false_eq_true, not_true_eq_false, false_implies, true_implies, Classical.not_not, ne_eq, reduceIte, Nat.reduceEqDiff, Nat.reduceLT, Nat.reduceLeDiff, Nat.reduceAdd, Nat.reduceSub, Nat.reduceMul])
      exact loop2 n 0 (by omega) _ ⟨by rw [hu], by rw [hu], fun _ _ => by rw [hu], fun t ht => absurd ht (by omega)⟩
    | succ d ih =>
      intro g hg u hu
      obtain ⟨o1, o2, o3, o4⟩ := nw_zr_ok n s i w1 g (by omega)
      rw [← hu] at o1 o2 o3 o4
      have hO' := nw_Ok_1 o1 hO1
      have hv := nw_Ok_sv hO' hs
      have h9 := nw_Sv_9 hv
      unfold nw_Sv at hv
      have hgg := nw_Ok_sg hO' hs (show g < 6 by omega)
      unfold nw_Sg at hgg
      have hcl : (nI g).toNatClampNeg = g := nI_clamp (by omega)
      have eg := o3 (nw_S n s (10 + g)) (fun g' hg' => by rw [Ne, nw_Sk]; omega)
      (apply V_s1 [20] 28; simp only [nwx_0, nwx_S, nw_s1, nw_pII, nw_pA, nw_tIs, nw_vis, nw_jpx, Option.isSome_some, Option.getD_some, nw_popn, nw_rok, nw_wok, nw_isR, nw_cd, nw_at, nw_put, nw_nl0, nw_nlS, nw_no2s, nw_ft, nw_l01, nw_ak, nw_tsw, nw_flat, Value.category, List.mem_cons, List.not_mem_nil, List.length_cons, List.length_nil, or_false, false_or, or_true, true_or, and_true, true_and, and_false, false_and, if_true, if_false, Option.some.injEq, Prod.mk.injEq, and_assoc, exists_and_left, exists_eq_left, exists_eq_left', exists_const, nw_ks, nw_f4, nw_fvs, nw_some, Nat.reduceAdd, nw_sz_I, nw_kd_I, nw_ln_I, nw_rf_I, nw_L_I, nw_I_I, nw_sz_L, nw_kd_L, nw_ln_L, nw_rf_L, nw_I_L, nw_L_L, nw_ob_I, nw_ob_L, nw_obr_I, nw_obr_L, nI_add, nw_b0, nw_b1, nw_b01, not_false_eq_true, not_true_eq_false, false_implies, true_implies, Classical.not_not, nw_i10, decide_eq_false_iff_not, decide_eq_true_eq, ne_eq, Option.toList_some, Option.toList_none, List.cons_append, List.nil_append, reduceIte, Nat.reduceEqDiff, Nat.reduceLT, Nat.reduceLeDiff, Nat.reduceSub, Nat.reduceMul, reduceCtorEq, ↓nwx_aaload, ↓nwx_aload_n, ↓nwx_arraylength, ↓nwx_bipush, ↓nwx_getfield, ↓nwx_goto, ↓nwx_iastore, ↓nwx_iconst, ↓nwx_if_icmp, ↓nwx_iinc, ↓nwx_iload_n, ↓nwx_invokevirtual, ↓nwx_istore_n, ↓nwx_return_, dmSe_removeArticle_0, rmSe_removeArticle, hv, h9, hgg, hcl, eg]; try simp (disch := omega) only [nw_b0, nw_b1, nw_ilt, nw_ile, nw_ieq, nw_icl, nw_iin, nI_add, and_true, true_and, and_false, false_and, not_false_eq_true, not_true_eq_false, false_implies, true_implies, Classical.not_not, ne_eq, reduceIte, Nat.reduceEqDiff, Nat.reduceLT, Nat.reduceLeDiff, Nat.reduceAdd, Nat.reduceSub, Nat.reduceMul, hv, h9, hgg, hcl, eg])
      refine ⟨fun h => absurd h (by omega), fun _ => ⟨by omega, by omega, ih (g + 1) (by omega) _ ?_⟩⟩
      rw [hu]
      rfl
  have hv := nw_Ok_sv hO hs
  unfold nw_Sv at hv
  rw [emSe_removeArticle]
  (apply V_s1 [] 12; simp only [nwx_0, nwx_S, nw_s1, nw_pII, nw_pA, nw_tIs, nw_vis, nw_jpx, Option.isSome_some, Option.getD_some, nw_popn, nw_rok, nw_wok, nw_isR, nw_cd, nw_at, nw_put, nw_nl0, nw_nlS, nw_no2s, nw_ft, nw_l01, nw_ak, nw_tsw, nw_flat, Value.category, List.mem_cons, List.not_mem_nil, List.length_cons, List.length_nil, or_false, false_or, or_true, true_or, and_true, true_and, and_false, false_and, if_true, if_false, Option.some.injEq, Prod.mk.injEq, and_assoc, exists_and_left, exists_eq_left, exists_eq_left', exists_const, nw_ks, nw_f4, nw_fvs, nw_some, Nat.reduceAdd, nw_sz_I, nw_kd_I, nw_ln_I, nw_rf_I, nw_L_I, nw_I_I, nw_sz_L, nw_kd_L, nw_ln_L, nw_rf_L, nw_I_L, nw_L_L, nw_ob_I, nw_ob_L, nw_obr_I, nw_obr_L, nI_add, nw_b0, nw_b1, nw_b01, not_false_eq_true, not_true_eq_false, false_implies, true_implies, Classical.not_not, nw_i10, decide_eq_false_iff_not, decide_eq_true_eq, ne_eq, Option.toList_some, Option.toList_none, List.cons_append, List.nil_append, reduceIte, Nat.reduceEqDiff, Nat.reduceLT, Nat.reduceLeDiff, Nat.reduceSub, Nat.reduceMul, reduceCtorEq, ↓nwx_aload_n, ↓nwx_getfield, ↓nwx_iastore, ↓nwx_iload_n, ↓nwx_invokevirtual, dmSe_removeArticle_0, rmSe_removeArticle, hv]; try simp (disch := omega) only [nw_b0, nw_b1, nw_ilt, nw_ile, nw_ieq, nw_icl, nw_iin, nI_add, and_true, true_and, and_false, false_and, not_false_eq_true, not_true_eq_false, false_implies, true_implies, Classical.not_not, ne_eq, reduceIte, Nat.reduceEqDiff, Nat.reduceLT, Nat.reduceLeDiff, Nat.reduceAdd, Nat.reduceSub, Nat.reduceMul, hv])
  refine ⟨by omega, nw_do0 (c_Sp_release (o := nw_S n s 2) _ hv.2.2.2.2.2.2.2.2.2.2.2.1 hv.2.2.2.2.2.2.2.2.2.2.2.2.1 hv.2.2.2.2.2.2.2.2.2.2.2.2.2.1 hv.2.2.2.2.2.2.2.2.2.2.2.2.2.2.1) ?_⟩
  rintro r w' ⟨rfl, rfl⟩
  have e2 : nw_I (nw_setI w (nw_S n s 4) (upd (nw_I w (nw_S n s 4)) i x)) (nw_S n s 2) = nw_I w (nw_S n s 2) := nw_S_Ine (by decide)
  simp only [e2]
  rw [hw1]
  (apply V_s1 [20] 4; simp only [nwx_0, nwx_S, nw_s1, nw_pII, nw_pA, nw_tIs, nw_vis, nw_jpx, Option.isSome_some, Option.getD_some, nw_popn, nw_rok, nw_wok, nw_isR, nw_cd, nw_at, nw_put, nw_nl0, nw_nlS, nw_no2s, nw_ft, nw_l01, nw_ak, nw_tsw, nw_flat, Value.category, List.mem_cons, List.not_mem_nil, List.length_cons, List.length_nil, or_false, false_or, or_true, true_or, and_true, true_and, and_false, false_and, if_true, if_false, Option.some.injEq, Prod.mk.injEq, and_assoc, exists_and_left, exists_eq_left, exists_eq_left', exists_const, nw_ks, nw_f4, nw_fvs, nw_some, Nat.reduceAdd, nw_sz_I, nw_kd_I, nw_ln_I, nw_rf_I, nw_L_I, nw_I_I, nw_sz_L, nw_kd_L, nw_ln_L, nw_rf_L, nw_I_L, nw_L_L, nw_ob_I, nw_ob_L, nw_obr_I, nw_obr_L, nI_add, nw_b0, nw_b1, nw_b01, not_false_eq_true, not_true_eq_false, false_implies, true_implies, Classical.not_not, nw_i10, decide_eq_false_iff_not, decide_eq_true_eq, ne_eq, Option.toList_some, Option.toList_none, List.cons_append, List.nil_append, reduceIte, Nat.reduceEqDiff, Nat.reduceLT, Nat.reduceLeDiff, Nat.reduceSub, Nat.reduceMul, reduceCtorEq, ↓nwx_iconst, ↓nwx_istore_n, dmSe_removeArticle_0, rmSe_removeArticle]; try simp (disch := omega) only [nw_b0, nw_b1, nw_ilt, nw_ile, nw_ieq, nw_icl, nw_iin, nI_add, and_true, true_and, and_false, false_and, not_false_eq_true, not_true_eq_false, false_implies, true_implies, Classical.not_not, ne_eq, reduceIte, Nat.reduceEqDiff, Nat.reduceLT, Nat.reduceLeDiff, Nat.reduceAdd, Nat.reduceSub, Nat.reduceMul])
  exact loop 6 0 rfl _ rfl
end SW
