/-! the reference expires -/
def q_oldX (S : nw_Q) (s i g : Nat) : Int32 := if S.1 10 (6 * s + g) < S.1 3 2 - S.1 14 (41 * s + i) then nI 0 else S.1 17 (6 * (41 * s + i) + g)
def q_oldF (S : nw_Q) (s i : Nat) : Nat → Bool × nw_Q
  | 0 => (true, S)
  | g + 1 => ((q_oldF S s i g).1 && decide (q_oldX S s i g = nI 0), q_i (q_oldF S s i g).2 17 (6 * (41 * s + i) + g) (q_oldX S s i g))
def q_exI (S : nw_Q) (s i : Nat) : Nat × nw_Q := if S.1 12 (41 * s + i) = nI 1 then (if (q_oldF S s i 6).1 = true then (1, q_i (q_remove (q_oldF S s i 6).2 s i) 12 (41 * s + i) (nI 2)) else (0, (q_oldF S s i 6).2)) else (0, S)
def q_exF (S : nw_Q) (s : Nat) : Nat → Nat × nw_Q
  | 0 => (0, S)
  | k + 1 => ((q_exF S s k).1 + (q_exI (q_exF S s k).2 s (k + 1)).1, (q_exI (q_exF S s k).2 s (k + 1)).2)
def q_drF (S : nw_Q) (s : Nat) : Nat → nw_Q
  | 0 => S
  | k + 1 => q_i (q_drF S s k) 12 (41 * s + (k + 1)) (if ¬ S.1 12 (41 * s + (k + 1)) = nI 1 ∧ S.1 13 (41 * s + (k + 1)) < S.1 3 2 then nI 0 else S.1 12 (41 * s + (k + 1)))
def q_expire (S : nw_Q) (x : Int32) : Int32 × nw_Q := if q_srv S x = true then (nI (q_exF S x.toNatClampNeg 40).1, q_drF (q_exF S x.toNatClampNeg 40).2 x.toNatClampNeg 40) else (-1, S)
theorem q_oldF_1 (S : nw_Q) (s i : Nat) {f : Nat} (h : f ≠ 17) : ∀ g, (q_oldF S s i g).2.1 f = S.1 f
  | 0 => rfl
  | g + 1 => by
    show (q_i (q_oldF S s i g).2 17 _ _).1 f = S.1 f
    rw [q_i_1, if_neg h]
    exact q_oldF_1 S s i h g
theorem q_oldF_17 (S : nw_Q) (s i : Nat) {j : Nat} : ∀ g, (∀ g', g' < g → j ≠ 6 * (41 * s + i) + g') → (q_oldF S s i g).2.1 17 j = S.1 17 j
  | 0, _ => rfl
  | g + 1, h => by
    show (q_i (q_oldF S s i g).2 17 _ _).1 17 j = S.1 17 j
    rw [q_i_1, if_pos rfl, pk_un (h g (by omega))]
    exact q_oldF_17 S s i g (fun g' hg' => h g' (by omega))
theorem q_drF_ok (S : nw_Q) (s : Nat) : ∀ k, (∀ f, f ≠ 12 → (q_drF S s k).1 f = S.1 f) ∧ ∀ j, (∀ k', 1 ≤ k' → k' ≤ k → j ≠ 41 * s + k') → (q_drF S s k).1 12 j = S.1 12 j
  | 0 => ⟨fun _ _ => rfl, fun _ _ => rfl⟩
  | k + 1 => by
    obtain ⟨h1, h2⟩ := q_drF_ok S s k
    refine ⟨fun f hf => ?_, fun j hj => ?_⟩
    · show (q_i (q_drF S s k) 12 _ _).1 f = S.1 f
      rw [q_i_1, if_neg hf, h1 f hf]
    · show (q_i (q_drF S s k) 12 _ _).1 12 j = S.1 12 j
      rw [q_i_1, if_pos rfl, pk_un (hj (k + 1) (by omega) (Nat.le_refl _))]
      exact h2 j (fun k' a b => hj k' a (by omega))
/-- lines hold 24 at most -/
abbrev q_lines (S : nw_Q) : Prop := ∀ l, l < 16 → ∃ q, q ≤ 24 ∧ S.1 20 l = nI q
theorem q_leaves_q {S : nw_Q} (h : q_lines S) {l : Nat} (hl : l < 16) (id : Int32) : q_lines (q_leaves S l id) := fun l' hl' => by
  by_cases he : l' = l
  · subst he
    obtain ⟨q, h1, h2⟩ := h l' hl'
    have := q_lvF_le (S.1 19) (24 * l') id (S.1 20 l').toNatClampNeg
    rw [h2, nI_clamp (by omega)] at this
    refine ⟨(q_lvF (S.1 19) (24 * l') id q).1, by omega, ?_⟩
    unfold q_leaves
    simp only [va_up_self]
    rw [pk_us, h2, nI_clamp (by omega)]
  · obtain ⟨q, h1, h2⟩ := h l' hl'
    exact ⟨q, h1, by rw [q_leaves_w he]; exact h2⟩
theorem q_remL_q {S : nw_Q} (h : q_lines S) {s : Nat} (hs : s < 4) (i : Nat) : ∀ t, t ≤ 4 → q_lines (q_remL S s i t)
  | 0, _ => h
  | t + 1, ht => q_leaves_q (q_remL_q h hs i t (by omega)) (show 4 * s + t < 16 by omega) (nI i)
theorem q_remove_q {S : nw_Q} (h : q_lines S) {s N : Nat} (hs : s < 4) (i : Nat) (h3 : S.1 3 0 = nI N) (hN : N ≤ 4) : q_lines (q_remove S s i) := by
  unfold q_remove
  rw [h3, nI_clamp (by omega)]
  refine q_remL_q (fun l hl => ?_) hs i N hN
  rw [q_remN_1 _ _ _ (by decide)]
  exact h l hl
theorem q_exI_ok {S : nw_Q} (h : q_lines S) {s i N : Nat} (hs : s < 4) (h3 : S.1 3 0 = nI N) (hN : N ≤ 4) : q_lines (q_exI S s i).2 ∧ (q_exI S s i).2.1 3 = S.1 3 ∧ (q_exI S s i).1 ≤ 1 := by
  have e20 : q_lines (q_oldF S s i 6).2 := fun l hl => by rw [q_oldF_1 _ _ _ (by decide)]; exact h l hl
  have e3 : (q_oldF S s i 6).2.1 3 = S.1 3 := q_oldF_1 _ _ _ (by decide) 6
  unfold q_exI
  split
  · split
    · refine ⟨fun l hl => ?_, ?_, Nat.le_refl _⟩
      · show ∃ q, q ≤ 24 ∧ (q_i _ 12 _ _).1 20 l = nI q
        rw [q_i_1, if_neg (by decide)]
        exact q_remove_q e20 hs i (by rw [e3]; exact h3) hN l hl
      · show (q_i _ 12 _ _).1 3 = S.1 3
        rw [q_i_1, if_neg (by decide), q_remove_1 (by decide) (by decide) (by decide), e3]
    · exact ⟨e20, e3, by omega⟩
  · exact ⟨h, rfl, by omega⟩
theorem q_exF_ok {S : nw_Q} (h : q_lines S) {s N : Nat} (hs : s < 4) (h3 : S.1 3 0 = nI N) (hN : N ≤ 4) : ∀ k, q_lines (q_exF S s k).2 ∧ (q_exF S s k).2.1 3 = S.1 3 ∧ (q_exF S s k).1 ≤ k
  | 0 => ⟨h, rfl, Nat.le_refl _⟩
  | k + 1 => by
    obtain ⟨h1, h2, h4⟩ := q_exF_ok h hs h3 hN k
    obtain ⟨g1, g2, g3⟩ := q_exI_ok h1 (i := k + 1) hs (by rw [h2]; exact h3) hN
    exact ⟨g1, g2.trans h2, by show (q_exF S s k).1 + (q_exI (q_exF S s k).2 s (k + 1)).1 ≤ k + 1; omega⟩
section MW
variable {n : Nat} {w : nw_W} {S : nw_Q}
set_option maxRecDepth 20000 in
theorem c_Mo_expire (x : Int32) (h3 : S.1 3 0 = nI n) (hq : q_lines S) (hO : nw_Ok n w) : V mMo_expire 0 (nw_ent mMo_expire [.ref (nw_m n 3), .int x]) [] (nw_mod n w S) 0 0 (nw_rp n w (q_expire S x)) := by
  have hm := nw_mf hO
  have hn4 := hO.2.1
  rw [emMo_expire]
  (apply V_s1 [] 5; simp only [nwx_0, nwx_S, nw_s1, nw_pII, nw_pA, nw_tIs, nw_vis, nw_jpx, Option.isSome_some, Option.getD_some, nw_popn, nw_rok, nw_wok, nw_isR, nw_cd, nw_at, nw_put, nw_nl0, nw_nlS, nw_no2s, nw_ft, nw_l01, nw_ak, nw_tsw, nw_flat, Value.category, List.mem_cons, List.not_mem_nil, List.length_cons, List.length_nil, or_false, false_or, or_true, true_or, and_true, true_and, and_false, false_and, if_true, if_false, Option.some.injEq, Prod.mk.injEq, and_assoc, exists_and_left, exists_eq_left, exists_eq_left', exists_const, nw_ks, nw_f4, nw_fvs, nw_some, Nat.reduceAdd, nw_sz_I, nw_kd_I, nw_ln_I, nw_rf_I, nw_L_I, nw_I_I, nw_sz_L, nw_kd_L, nw_ln_L, nw_rf_L, nw_I_L, nw_L_L, nw_ob_I, nw_ob_L, nw_obr_I, nw_obr_L, nI_add, nw_b0, nw_b1, nw_b01, not_false_eq_true, not_true_eq_false, false_implies, true_implies, Classical.not_not, nw_i10, decide_eq_false_iff_not, decide_eq_true_eq, ne_eq, Option.toList_some, Option.toList_none, List.cons_append, List.nil_append, reduceIte, Nat.reduceEqDiff, Nat.reduceLT, Nat.reduceLeDiff, Nat.reduceSub, Nat.reduceMul, reduceCtorEq, ↓nwx_aload_n, ↓nwx_iload_n, ↓nwx_invokevirtual, dmMo_expire_0, rmMo_expire, hm, nw_mod_I, nw_mod_L, nw_mod_sF, nw_mod_sG, q_f_1, q_f_2, q_g_1, q_g_2, nw_mod_ob, nw_mod_ln, nw_mod_rf, pk_mul]; try simp (disch := omega) only [nw_b0, nw_b1, nw_ilt, nw_ile, nw_ieq, nw_icl, nw_iin, nI_add, and_true, true_and, and_false, false_and, not_false_eq_true, not_true_eq_false, false_implies, true_implies, Classical.not_not, ne_eq, reduceIte, Nat.reduceEqDiff, Nat.reduceLT, Nat.reduceLeDiff, Nat.reduceAdd, Nat.reduceSub, Nat.reduceMul, hm, nw_mod_I, nw_mod_L, nw_mod_sF, nw_mod_sG, q_f_1, q_f_2, q_g_1, q_g_2, nw_mod_ob, nw_mod_ln, nw_mod_rf, pk_mul])
  refine nw_do0 (c_Mo_server x hO) ?_
  rintro r w' ⟨rfl, rfl⟩
  by_cases hx : q_srv S x = true
  · have hx1 := hx
    obtain ⟨s, hs, rfl⟩ := q_srv_ok h3 hn4 hx
    have hcs : (nI s).toNatClampNeg = s := nI_clamp (by omega)
    have hs4 : s < 4 := by omega
    have eq : q_expire S (nI s) = (nI (q_exF S s 40).1, q_drF (q_exF S s 40).2 s 40) := by
      unfold q_expire
      rw [if_pos hx1, hcs]
    rw [eq, hx1]
    generalize hQ : nw_rp n w (nI (q_exF S s 40).1, q_drF (q_exF S s 40).2 s 40) = Q
    have loop3 : ∀ d k, k + d = 40 → ∀ v4 v5 v6 v7, V mMo_expire 185 [.ref (nw_m n 3), .int (nI s), .int (nI (q_exF S s 40).1), .int (nI (k + 1)), v4, v5, v6, v7] [] (nw_mod n w (q_drF (q_exF S s 40).2 s k)) 0 0 Q := by
      intro d
      induction d with
      | zero =>
        intro k hk v4 v5 v6 v7
        have hk : k = 40 := by omega
        subst hk
        (apply V_s1 [185] 38; simp only [nwx_0, nwx_S, nw_s1, nw_pII, nw_pA, nw_tIs, nw_vis, nw_jpx, Option.isSome_some, Option.getD_some, nw_popn, nw_rok, nw_wok, nw_isR, nw_cd, nw_at, nw_put, nw_nl0, nw_nlS, nw_no2s, nw_ft, nw_l01, nw_ak, nw_tsw, nw_flat, Value.category, List.mem_cons, List.not_mem_nil, List.length_cons, List.length_nil, or_false, false_or, or_true, true_or, and_true, true_and, and_false, false_and, if_true, if_false, Option.some.injEq, Prod.mk.injEq, and_assoc, exists_and_left, exists_eq_left, exists_eq_left', exists_const, nw_ks, nw_f4, nw_fvs, nw_some, Nat.reduceAdd, nw_sz_I, nw_kd_I, nw_ln_I, nw_rf_I, nw_L_I, nw_I_I, nw_sz_L, nw_kd_L, nw_ln_L, nw_rf_L, nw_I_L, nw_L_L, nw_ob_I, nw_ob_L, nw_obr_I, nw_obr_L, nI_add, nw_b0, nw_b1, nw_b01, not_false_eq_true, not_true_eq_false, false_implies, true_implies, Classical.not_not, nw_i10, decide_eq_false_iff_not, decide_eq_true_eq, ne_eq, Option.toList_some, Option.toList_none, List.cons_append, List.nil_append, reduceIte, Nat.reduceEqDiff, Nat.reduceLT, Nat.reduceLeDiff, Nat.reduceSub, Nat.reduceMul, reduceCtorEq, ↓nwx_aload_n, ↓nwx_bipush, ↓nwx_getfield, ↓nwx_goto, ↓nwx_iadd, ↓nwx_iaload, ↓nwx_iastore, ↓nwx_iconst, ↓nwx_if_icmp, ↓nwx_iinc, ↓nwx_iload, ↓nwx_iload_n, ↓nwx_imul, ↓nwx_ireturn, ↓nwx_istore, dmMo_expire_2, dmMo_expire_3, rmMo_expire, hm, nw_mod_I, nw_mod_L, nw_mod_sF, nw_mod_sG, q_f_1, q_f_2, q_g_1, q_g_2, nw_mod_ob, nw_mod_ln, nw_mod_rf, pk_mul]; try simp (disch := omega) only [nw_b0, nw_b1, nw_ilt, nw_ile, nw_ieq, nw_icl, nw_iin, nI_add, and_true, true_and, and_false, false_and, not_false_eq_true, not_true_eq_false, false_implies, true_implies, Classical.not_not, ne_eq, reduceIte, Nat.reduceEqDiff, Nat.reduceLT, Nat.reduceLeDiff, Nat.reduceAdd, Nat.reduceSub, Nat.reduceMul, hm, nw_mod_I, nw_mod_L, nw_mod_sF, nw_mod_sG, q_f_1, q_f_2, q_g_1, q_g_2, nw_mod_ob, nw_mod_ln, nw_mod_rf, pk_mul])
        rw [← hQ]
        exact ⟨rfl, rfl⟩
      | succ d ih =>
        intro k hk v4 v5 v6 v7
        have ih := ih (k + 1) (by omega)
        generalize hU : (q_exF S s 40).2 = U at ih
        obtain ⟨k1, k2⟩ := q_drF_ok U s k
        have e3 := k1 3 (by decide)
        have e13 := k1 13 (by decide)
        have e12 := k2 (41 * s + (k + 1)) (fun k' a b => by omega)
        have hst : q_drF U s (k + 1) = q_i (q_drF U s k) 12 (41 * s + (k + 1)) (if ¬ U.1 12 (41 * s + (k + 1)) = nI 1 ∧ U.1 13 (41 * s + (k + 1)) < U.1 3 2 then nI 0 else U.1 12 (41 * s + (k + 1))) := rfl
        rw [hst] at ih
        have hct : (nI (41 * s + (k + 1))).toNatClampNeg = 41 * s + (k + 1) := nI_clamp (by omega)
        (apply V_s1 [185] 38; simp only [nwx_0, nwx_S, nw_s1, nw_pII, nw_pA, nw_tIs, nw_vis, nw_jpx, Option.isSome_some, Option.getD_some, nw_popn, nw_rok, nw_wok, nw_isR, nw_cd, nw_at, nw_put, nw_nl0, nw_nlS, nw_no2s, nw_ft, nw_l01, nw_ak, nw_tsw, nw_flat, Value.category, List.mem_cons, List.not_mem_nil, List.length_cons, List.length_nil, or_false, false_or, or_true, true_or, and_true, true_and, and_false, false_and, if_true, if_false, Option.some.injEq, Prod.mk.injEq, and_assoc, exists_and_left, exists_eq_left, exists_eq_left', exists_const, nw_ks, nw_f4, nw_fvs, nw_some, Nat.reduceAdd, nw_sz_I, nw_kd_I, nw_ln_I, nw_rf_I, nw_L_I, nw_I_I, nw_sz_L, nw_kd_L, nw_ln_L, nw_rf_L, nw_I_L, nw_L_L, nw_ob_I, nw_ob_L, nw_obr_I, nw_obr_L, nI_add, nw_b0, nw_b1, nw_b01, not_false_eq_true, not_true_eq_false, false_implies, true_implies, Classical.not_not, nw_i10, decide_eq_false_iff_not, decide_eq_true_eq, ne_eq, Option.toList_some, Option.toList_none, List.cons_append, List.nil_append, reduceIte, Nat.reduceEqDiff, Nat.reduceLT, Nat.reduceLeDiff, Nat.reduceSub, Nat.reduceMul, reduceCtorEq, ↓nwx_aload_n, ↓nwx_bipush, ↓nwx_getfield, ↓nwx_goto, ↓nwx_iadd, ↓nwx_iaload, ↓nwx_iastore, ↓nwx_iconst, ↓nwx_if_icmp, ↓nwx_iinc, ↓nwx_iload, ↓nwx_iload_n, ↓nwx_imul, ↓nwx_ireturn, ↓nwx_istore, dmMo_expire_2, dmMo_expire_3, rmMo_expire, hm, nw_mod_I, nw_mod_L, nw_mod_sF, nw_mod_sG, q_f_1, q_f_2, q_g_1, q_g_2, nw_mod_ob, nw_mod_ln, nw_mod_rf, pk_mul, e3, e13, hct, e12]; try simp (disch := omega) only [nw_b0, nw_b1, nw_ilt, nw_ile, nw_ieq, nw_icl, nw_iin, nI_add, and_true, true_and, and_false, false_and, not_false_eq_true, not_true_eq_false, false_implies, true_implies, Classical.not_not, ne_eq, reduceIte, Nat.reduceEqDiff, Nat.reduceLT, Nat.reduceLeDiff, Nat.reduceAdd, Nat.reduceSub, Nat.reduceMul, hm, nw_mod_I, nw_mod_L, nw_mod_sF, nw_mod_sG, q_f_1, q_f_2, q_g_1, q_g_2, nw_mod_ob, nw_mod_ln, nw_mod_rf, pk_mul, e3, e13, hct, e12])
        refine br_f (by omega) ⟨by omega, fun b1 => ⟨by omega, by omega, ?_⟩, fun b1 => ⟨by omega, fun b2 => ⟨by omega, by omega, ?_⟩, fun b2 => ⟨by omega, ?_⟩⟩⟩
        · rw [if_neg (fun q => q.1 b1)] at ih
          exact ih _ _ _ _
        · rw [if_neg (fun q => absurd q.2 (Int32.not_lt.mpr b2))] at ih
          exact ih _ _ _ _
        · rw [if_pos ⟨b1, Int32.not_le.mp b2⟩] at ih
          exact ih _ _ _ _
    have loop : ∀ d k, k + d = 40 → ∀ v4 v5 v6 v7, V mMo_expire 14 [.ref (nw_m n 3), .int (nI s), .int (nI (q_exF S s k).1), .int (nI (k + 1)), v4, v5, v6, v7] [] (nw_mod n w (q_exF S s k).2) 0 0 Q := by
      intro d
      induction d with
      | zero =>
        intro k hk v4 v5 v6 v7
        have hk : k = 40 := by omega
        subst hk
        (apply V_s1 [14, 45, 177, 185] 23; simp only [nwx_0, nwx_S, nw_s1, nw_pII, nw_pA, nw_tIs, nw_vis, nw_jpx, Option.isSome_some, Option.getD_some, nw_popn, nw_rok, nw_wok, nw_isR, nw_cd, nw_at, nw_put, nw_nl0, nw_nlS, nw_no2s, nw_ft, nw_l01, nw_ak, nw_tsw, nw_flat, Value.category, List.mem_cons, List.not_mem_nil, List.length_cons, List.length_nil, or_false, false_or, or_true, true_or, and_true, true_and, and_false, false_and, if_true, if_false, Option.some.injEq, Prod.mk.injEq, and_assoc, exists_and_left, exists_eq_left, exists_eq_left', exists_const, nw_ks, nw_f4, nw_fvs, nw_some, Nat.reduceAdd, nw_sz_I, nw_kd_I, nw_ln_I, nw_rf_I, nw_L_I, nw_I_I, nw_sz_L, nw_kd_L, nw_ln_L, nw_rf_L, nw_I_L, nw_L_L, nw_ob_I, nw_ob_L, nw_obr_I, nw_obr_L, nI_add, nw_b0, nw_b1, nw_b01, not_false_eq_true, not_true_eq_false, false_implies, true_implies, Classical.not_not, nw_i10, decide_eq_false_iff_not, decide_eq_true_eq, ne_eq, Option.toList_some, Option.toList_none, List.cons_append, List.nil_append, reduceIte, Nat.reduceEqDiff, Nat.reduceLT, Nat.reduceLeDiff, Nat.reduceSub, Nat.reduceMul, reduceCtorEq, ↓nwx_aload_n, ↓nwx_bipush, ↓nwx_getfield, ↓nwx_iadd, ↓nwx_iaload, ↓nwx_iconst, ↓nwx_if_icmp, ↓nwx_iload, ↓nwx_iload_n, ↓nwx_imul, ↓nwx_istore, ↓nwx_istore_n, dmMo_expire_0, dmMo_expire_2, rmMo_expire, hm, nw_mod_I, nw_mod_L, nw_mod_sF, nw_mod_sG, q_f_1, q_f_2, q_g_1, q_g_2, nw_mod_ob, nw_mod_ln, nw_mod_rf, pk_mul]; try simp (disch := omega) only [nw_b0, nw_b1, nw_ilt, nw_ile, nw_ieq, nw_icl, nw_iin, nI_add, and_true, true_and, and_false, false_and, not_false_eq_true, not_true_eq_false, false_implies, true_implies, Classical.not_not, ne_eq, reduceIte, Nat.reduceEqDiff, Nat.reduceLT, Nat.reduceLeDiff, Nat.reduceAdd, Nat.reduceSub, Nat.reduceMul, hm, nw_mod_I, nw_mod_L, nw_mod_sF, nw_mod_sG, q_f_1, q_f_2, q_g_1, q_g_2, nw_mod_ob, nw_mod_ln, nw_mod_rf, pk_mul])
        exact loop3 40 0 rfl _ _ _ _
      | succ d ih =>
        intro k hk v4 v5 v6 v7
        have ih := ih (k + 1) (by omega)
        obtain ⟨k1, k2, k3⟩ := q_exF_ok hq hs4 h3 hn4 k
        have hst : q_exF S s (k + 1) = ((q_exF S s k).1 + (q_exI (q_exF S s k).2 s (k + 1)).1, (q_exI (q_exF S s k).2 s (k + 1)).2) := rfl
        rw [hst] at ih
        have k30 : (q_exF S s k).2.1 3 0 = nI n := by rw [k2]; exact h3
        generalize (q_exF S s k).2 = U at ih k1 k2 k30
        generalize (q_exF S s k).1 = c at ih k3
        dsimp only at ih
        have p177 : ∀ c' U', (c', U') = (c + (q_exI U s (k + 1)).1, (q_exI U s (k + 1)).2) → ∀ v4 v5 v6 v7, V mMo_expire 177 [.ref (nw_m n 3), .int (nI s), .int (nI c'), .int (nI (k + 1)), v4, v5, v6, v7] [] (nw_mod n w U') 0 0 Q := fun c' U' he v4 v5 v6 v7 => by
          cases he
          (apply V_s1 [14] 4; simp only [nwx_0, nwx_S, nw_s1, nw_pII, nw_pA, nw_tIs, nw_vis, nw_jpx, Option.isSome_some, Option.getD_some, nw_popn, nw_rok, nw_wok, nw_isR, nw_cd, nw_at, nw_put, nw_nl0, nw_nlS, nw_no2s, nw_ft, nw_l01, nw_ak, nw_tsw, nw_flat, Value.category, List.mem_cons, List.not_mem_nil, List.length_cons, List.length_nil, or_false, false_or, or_true, true_or, and_true, true_and, and_false, false_and, if_true, if_false, Option.some.injEq, Prod.mk.injEq, and_assoc, exists_and_left, exists_eq_left, exists_eq_left', exists_const, nw_ks, nw_f4, nw_fvs, nw_some, Nat.reduceAdd, nw_sz_I, nw_kd_I, nw_ln_I, nw_rf_I, nw_L_I, nw_I_I, nw_sz_L, nw_kd_L, nw_ln_L, nw_rf_L, nw_I_L, nw_L_L, nw_ob_I, nw_ob_L, nw_obr_I, nw_obr_L, nI_add, nw_b0, nw_b1, nw_b01, not_false_eq_true, not_true_eq_false, false_implies, true_implies, Classical.not_not, nw_i10, decide_eq_false_iff_not, decide_eq_true_eq, ne_eq, Option.toList_some, Option.toList_none, List.cons_append, List.nil_append, reduceIte, Nat.reduceEqDiff, Nat.reduceLT, Nat.reduceLeDiff, Nat.reduceSub, Nat.reduceMul, reduceCtorEq, ↓nwx_goto, ↓nwx_iinc, dmMo_expire_2, rmMo_expire]; try simp (disch := omega) only [nw_b0, nw_b1, nw_ilt, nw_ile, nw_ieq, nw_icl, nw_iin, nI_add, and_true, true_and, and_false, false_and, not_false_eq_true, not_true_eq_false, false_implies, true_implies, Classical.not_not, ne_eq, reduceIte, Nat.reduceEqDiff, Nat.reduceLT, Nat.reduceLeDiff, Nat.reduceAdd, Nat.reduceSub, Nat.reduceMul])
          exact ih _ _ _ _
        have loop2 : U.1 12 (41 * s + (k + 1)) = nI 1 → ∀ d g, g + d = 6 → ∀ v7, V mMo_expire 45 [.ref (nw_m n 3), .int (nI s), .int (nI c), .int (nI (k + 1)), .int (nI (41 * s + (k + 1))), .int (nw_b (q_oldF U s (k + 1) g).1), .int (nI g), v7] [] (nw_mod n w (q_oldF U s (k + 1) g).2) 0 0 Q := by
          intro h1 d
          induction d with
          | zero =>
            intro g hg v7
            have hg : g = 6 := by omega
            subst hg
            (apply V_s1 [45, 177] 68; simp only [nwx_0, nwx_S, nw_s1, nw_pII, nw_pA, nw_tIs, nw_vis, nw_jpx, Option.isSome_some, Option.getD_some, nw_popn, nw_rok, nw_wok, nw_isR, nw_cd, nw_at, nw_put, nw_nl0, nw_nlS, nw_no2s, nw_ft, nw_l01, nw_ak, nw_tsw, nw_flat, Value.category, List.mem_cons, List.not_mem_nil, List.length_cons, List.length_nil, or_false, false_or, or_true, true_or, and_true, true_and, and_false, false_and, if_true, if_false, Option.some.injEq, Prod.mk.injEq, and_assoc, exists_and_left, exists_eq_left, exists_eq_left', exists_const, nw_ks, nw_f4, nw_fvs, nw_some, Nat.reduceAdd, nw_sz_I, nw_kd_I, nw_ln_I, nw_rf_I, nw_L_I, nw_I_I, nw_sz_L, nw_kd_L, nw_ln_L, nw_rf_L, nw_I_L, nw_L_L, nw_ob_I, nw_ob_L, nw_obr_I, nw_obr_L, nI_add, nw_b0, nw_b1, nw_b01, not_false_eq_true, not_true_eq_false, false_implies, true_implies, Classical.not_not, nw_i10, decide_eq_false_iff_not, decide_eq_true_eq, ne_eq, Option.toList_some, Option.toList_none, List.cons_append, List.nil_append, reduceIte, Nat.reduceEqDiff, Nat.reduceLT, Nat.reduceLeDiff, Nat.reduceSub, Nat.reduceMul, reduceCtorEq, ↓nwx_aload_n, ↓nwx_bipush, ↓nwx_getfield, ↓nwx_goto, ↓nwx_iadd, ↓nwx_iaload, ↓nwx_iastore, ↓nwx_iconst, ↓nwx_ifCond, ↓nwx_if_icmp, ↓nwx_iinc, ↓nwx_iload, ↓nwx_iload_n, ↓nwx_imul, ↓nwx_invokevirtual, ↓nwx_istore, ↓nwx_isub, dmMo_expire_0, dmMo_expire_1, dmMo_expire_2, rmMo_expire, hm, nw_mod_I, nw_mod_L, nw_mod_sF, nw_mod_sG, q_f_1, q_f_2, q_g_1, q_g_2, nw_mod_ob, nw_mod_ln, nw_mod_rf, pk_mul]; try simp (disch := omega) only [nw_b0, nw_b1, nw_ilt, nw_ile, nw_ieq, nw_icl, nw_iin, nI_add, and_true, true_and, and_false, false_and, not_false_eq_true, not_true_eq_false, false_implies, true_implies, Classical.not_not, ne_eq, reduceIte, Nat.reduceEqDiff, Nat.reduceLT, Nat.reduceLeDiff, Nat.reduceAdd, Nat.reduceSub, Nat.reduceMul, hm, nw_mod_I, nw_mod_L, nw_mod_sF, nw_mod_sG, q_f_1, q_f_2, q_g_1, q_g_2, nw_mod_ob, nw_mod_ln, nw_mod_rf, pk_mul])
            refine ⟨fun b1 => p177 c _ (by simp only [q_exI, if_pos h1, b1, Bool.false_eq_true, if_false, Nat.add_zero]) _ _ _ _, fun b1 => ?_⟩
            refine nw_do0 (c_Mo_remove hs4 (show k + 1 ≤ 40 by omega) hn4 (by rw [q_oldF_1 _ _ _ (by decide)]; exact k30) (fun t ht => by rw [q_oldF_1 _ _ _ (by decide)]; exact k1 (4 * s + t) (by omega)) hO) ?_
            rintro r w' ⟨rfl, rfl⟩
            (apply V_s1 [177] 8; simp only [nwx_0, nwx_S, nw_s1, nw_pII, nw_pA, nw_tIs, nw_vis, nw_jpx, Option.isSome_some, Option.getD_some, nw_popn, nw_rok, nw_wok, nw_isR, nw_cd, nw_at, nw_put, nw_nl0, nw_nlS, nw_no2s, nw_ft, nw_l01, nw_ak, nw_tsw, nw_flat, Value.category, List.mem_cons, List.not_mem_nil, List.length_cons, List.length_nil, or_false, false_or, or_true, true_or, and_true, true_and, and_false, false_and, if_true, if_false, Option.some.injEq, Prod.mk.injEq, and_assoc, exists_and_left, exists_eq_left, exists_eq_left', exists_const, nw_ks, nw_f4, nw_fvs, nw_some, Nat.reduceAdd, nw_sz_I, nw_kd_I, nw_ln_I, nw_rf_I, nw_L_I, nw_I_I, nw_sz_L, nw_kd_L, nw_ln_L, nw_rf_L, nw_I_L, nw_L_L, nw_ob_I, nw_ob_L, nw_obr_I, nw_obr_L, nI_add, nw_b0, nw_b1, nw_b01, not_false_eq_true, not_true_eq_false, false_implies, true_implies, Classical.not_not, nw_i10, decide_eq_false_iff_not, decide_eq_true_eq, ne_eq, Option.toList_some, Option.toList_none, List.cons_append, List.nil_append, reduceIte, Nat.reduceEqDiff, Nat.reduceLT, Nat.reduceLeDiff, Nat.reduceSub, Nat.reduceMul, reduceCtorEq, ↓nwx_aload_n, ↓nwx_getfield, ↓nwx_iastore, ↓nwx_iconst, ↓nwx_iinc, ↓nwx_iload, dmMo_expire_2, rmMo_expire, hm, nw_mod_I, nw_mod_L, nw_mod_sF, nw_mod_sG, q_f_1, q_f_2, q_g_1, q_g_2, nw_mod_ob, nw_mod_ln, nw_mod_rf, pk_mul]; try simp (disch := omega) only [nw_b0, nw_b1, nw_ilt, nw_ile, nw_ieq, nw_icl, nw_iin, nI_add, and_true, true_and, and_false, false_and, not_false_eq_true, not_true_eq_false, false_implies, true_implies, Classical.not_not, ne_eq, reduceIte, Nat.reduceEqDiff, Nat.reduceLT, Nat.reduceLeDiff, Nat.reduceAdd, Nat.reduceSub, Nat.reduceMul, hm, nw_mod_I, nw_mod_L, nw_mod_sF, nw_mod_sG, q_f_1, q_f_2, q_g_1, q_g_2, nw_mod_ob, nw_mod_ln, nw_mod_rf, pk_mul])
            refine ⟨by omega, p177 (c + 1) _ ?_ _ _ _ _⟩
            simp only [q_exI, if_pos h1, eq_true_of_ne_false b1, if_true]
            rfl
          | succ d ih2 =>
            intro g hg v7
            have ih2 := ih2 (g + 1) (by omega)
            have e3 := q_oldF_1 U s (k + 1) (f := 3) (by decide) g
            have e14 := q_oldF_1 U s (k + 1) (f := 14) (by decide) g
            have e10 := q_oldF_1 U s (k + 1) (f := 10) (by decide) g
            have e17 := q_oldF_17 U s (k + 1) (j := 6 * (41 * s + (k + 1)) + g) g (fun g' hg' => by omega)
            have hst2 : q_oldF U s (k + 1) (g + 1) = ((q_oldF U s (k + 1) g).1 && decide (q_oldX U s (k + 1) g = nI 0), q_i (q_oldF U s (k + 1) g).2 17 (6 * (41 * s + (k + 1)) + g) (q_oldX U s (k + 1) g)) := rfl
            rw [hst2] at ih2
            have hct : (nI (6 * (41 * s + (k + 1)) + g)).toNatClampNeg = 6 * (41 * s + (k + 1)) + g := nI_clamp (by omega)
            have eA : U.1 3 2 - U.1 14 (41 * s + (k + 1)) ≤ U.1 10 (6 * s + g) → q_oldX U s (k + 1) g = U.1 17 (6 * (41 * s + (k + 1)) + g) := fun h => if_neg (Int32.not_lt.mpr h)
            have eB : ¬ U.1 3 2 - U.1 14 (41 * s + (k + 1)) ≤ U.1 10 (6 * s + g) → q_oldX U s (k + 1) g = nI 0 := fun h => if_pos (Int32.not_le.mp h)
            (apply V_s1 [45, 155] 62; simp only [nwx_0, nwx_S, nw_s1, nw_pII, nw_pA, nw_tIs, nw_vis, nw_jpx, Option.isSome_some, Option.getD_some, nw_popn, nw_rok, nw_wok, nw_isR, nw_cd, nw_at, nw_put, nw_nl0, nw_nlS, nw_no2s, nw_ft, nw_l01, nw_ak, nw_tsw, nw_flat, Value.category, List.mem_cons, List.not_mem_nil, List.length_cons, List.length_nil, or_false, false_or, or_true, true_or, and_true, true_and, and_false, false_and, if_true, if_false, Option.some.injEq, Prod.mk.injEq, and_assoc, exists_and_left, exists_eq_left, exists_eq_left', exists_const, nw_ks, nw_f4, nw_fvs, nw_some, Nat.reduceAdd, nw_sz_I, nw_kd_I, nw_ln_I, nw_rf_I, nw_L_I, nw_I_I, nw_sz_L, nw_kd_L, nw_ln_L, nw_rf_L, nw_I_L, nw_L_L, nw_ob_I, nw_ob_L, nw_obr_I, nw_obr_L, nI_add, nw_b0, nw_b1, nw_b01, not_false_eq_true, not_true_eq_false, false_implies, true_implies, Classical.not_not, nw_i10, decide_eq_false_iff_not, decide_eq_true_eq, ne_eq, Option.toList_some, Option.toList_none, List.cons_append, List.nil_append, reduceIte, Nat.reduceEqDiff, Nat.reduceLT, Nat.reduceLeDiff, Nat.reduceSub, Nat.reduceMul, reduceCtorEq, ↓nwx_aload_n, ↓nwx_bipush, ↓nwx_getfield, ↓nwx_goto, ↓nwx_iadd, ↓nwx_iaload, ↓nwx_iastore, ↓nwx_iconst, ↓nwx_ifCond, ↓nwx_if_icmp, ↓nwx_iinc, ↓nwx_iload, ↓nwx_iload_n, ↓nwx_imul, ↓nwx_istore, ↓nwx_isub, dmMo_expire_0, dmMo_expire_1, dmMo_expire_2, rmMo_expire, hm, nw_mod_I, nw_mod_L, nw_mod_sF, nw_mod_sG, q_f_1, q_f_2, q_g_1, q_g_2, nw_mod_ob, nw_mod_ln, nw_mod_rf, pk_mul, e3, e14, e10, hct, e17, pk_us]; try simp (disch := omega) only [nw_b0, nw_b1, nw_ilt, nw_ile, nw_ieq, nw_icl, nw_iin, nI_add, and_true, true_and, and_false, false_and, not_false_eq_true, not_true_eq_false, false_implies, true_implies, Classical.not_not, ne_eq, reduceIte, Nat.reduceEqDiff, Nat.reduceLT, Nat.reduceLeDiff, Nat.reduceAdd, Nat.reduceSub, Nat.reduceMul, hm, nw_mod_I, nw_mod_L, nw_mod_sF, nw_mod_sG, q_f_1, q_f_2, q_g_1, q_g_2, nw_mod_ob, nw_mod_ln, nw_mod_rf, pk_mul, e3, e14, e10, hct, e17, pk_us])
            refine br_f (by omega) ⟨by omega, by omega, fun h => ⟨by omega, by omega, fun c1 => ?_, fun c1 => ⟨by omega, fun c2 => ?_, fun c2 => ?_⟩⟩, fun h => ⟨by omega, fun c1 => ?_, fun c1 => ⟨by omega, ?_⟩⟩⟩
            · rw [eA h, c1] at ih2
              exact ih2 _
            · rw [eA h, eq_true_of_ne_false c1, decide_eq_false c2] at ih2
              exact ih2 _
            · rw [eA h, eq_true_of_ne_false c1, decide_eq_true c2] at ih2
              exact ih2 _
            · rw [eB h, c1] at ih2
              exact ih2 _
            · rw [eB h, eq_true_of_ne_false c1, decide_eq_true rfl] at ih2
              exact ih2 _
        (apply V_s1 [14, 45, 177, 185] 23; simp only [nwx_0, nwx_S, nw_s1, nw_pII, nw_pA, nw_tIs, nw_vis, nw_jpx, Option.isSome_some, Option.getD_some, nw_popn, nw_rok, nw_wok, nw_isR, nw_cd, nw_at, nw_put, nw_nl0, nw_nlS, nw_no2s, nw_ft, nw_l01, nw_ak, nw_tsw, nw_flat, Value.category, List.mem_cons, List.not_mem_nil, List.length_cons, List.length_nil, or_false, false_or, or_true, true_or, and_true, true_and, and_false, false_and, if_true, if_false, Option.some.injEq, Prod.mk.injEq, and_assoc, exists_and_left, exists_eq_left, exists_eq_left', exists_const, nw_ks, nw_f4, nw_fvs, nw_some, Nat.reduceAdd, nw_sz_I, nw_kd_I, nw_ln_I, nw_rf_I, nw_L_I, nw_I_I, nw_sz_L, nw_kd_L, nw_ln_L, nw_rf_L, nw_I_L, nw_L_L, nw_ob_I, nw_ob_L, nw_obr_I, nw_obr_L, nI_add, nw_b0, nw_b1, nw_b01, not_false_eq_true, not_true_eq_false, false_implies, true_implies, Classical.not_not, nw_i10, decide_eq_false_iff_not, decide_eq_true_eq, ne_eq, Option.toList_some, Option.toList_none, List.cons_append, List.nil_append, reduceIte, Nat.reduceEqDiff, Nat.reduceLT, Nat.reduceLeDiff, Nat.reduceSub, Nat.reduceMul, reduceCtorEq, ↓nwx_aload_n, ↓nwx_bipush, ↓nwx_getfield, ↓nwx_iadd, ↓nwx_iaload, ↓nwx_iconst, ↓nwx_if_icmp, ↓nwx_iload, ↓nwx_iload_n, ↓nwx_imul, ↓nwx_istore, ↓nwx_istore_n, dmMo_expire_0, dmMo_expire_2, rmMo_expire, hm, nw_mod_I, nw_mod_L, nw_mod_sF, nw_mod_sG, q_f_1, q_f_2, q_g_1, q_g_2, nw_mod_ob, nw_mod_ln, nw_mod_rf, pk_mul]; try simp (disch := omega) only [nw_b0, nw_b1, nw_ilt, nw_ile, nw_ieq, nw_icl, nw_iin, nI_add, and_true, true_and, and_false, false_and, not_false_eq_true, not_true_eq_false, false_implies, true_implies, Classical.not_not, ne_eq, reduceIte, Nat.reduceEqDiff, Nat.reduceLT, Nat.reduceLeDiff, Nat.reduceAdd, Nat.reduceSub, Nat.reduceMul, hm, nw_mod_I, nw_mod_L, nw_mod_sF, nw_mod_sG, q_f_1, q_f_2, q_g_1, q_g_2, nw_mod_ob, nw_mod_ln, nw_mod_rf, pk_mul])
        exact br_f (by omega) ⟨by omega, fun b1 => p177 c U (by simp only [q_exI, if_neg b1, Nat.add_zero]) _ _ _ _, fun b1 => loop2 b1 6 0 rfl _⟩
    (apply V_s1 [14] 9; simp only [nwx_0, nwx_S, nw_s1, nw_pII, nw_pA, nw_tIs, nw_vis, nw_jpx, Option.isSome_some, Option.getD_some, nw_popn, nw_rok, nw_wok, nw_isR, nw_cd, nw_at, nw_put, nw_nl0, nw_nlS, nw_no2s, nw_ft, nw_l01, nw_ak, nw_tsw, nw_flat, Value.category, List.mem_cons, List.not_mem_nil, List.length_cons, List.length_nil, or_false, false_or, or_true, true_or, and_true, true_and, and_false, false_and, if_true, if_false, Option.some.injEq, Prod.mk.injEq, and_assoc, exists_and_left, exists_eq_left, exists_eq_left', exists_const, nw_ks, nw_f4, nw_fvs, nw_some, Nat.reduceAdd, nw_sz_I, nw_kd_I, nw_ln_I, nw_rf_I, nw_L_I, nw_I_I, nw_sz_L, nw_kd_L, nw_ln_L, nw_rf_L, nw_I_L, nw_L_L, nw_ob_I, nw_ob_L, nw_obr_I, nw_obr_L, nI_add, nw_b0, nw_b1, nw_b01, not_false_eq_true, not_true_eq_false, false_implies, true_implies, Classical.not_not, nw_i10, decide_eq_false_iff_not, decide_eq_true_eq, ne_eq, Option.toList_some, Option.toList_none, List.cons_append, List.nil_append, reduceIte, Nat.reduceEqDiff, Nat.reduceLT, Nat.reduceLeDiff, Nat.reduceSub, Nat.reduceMul, reduceCtorEq, ↓nwx_iconst, ↓nwx_ifCond, ↓nwx_ireturn, ↓nwx_istore_n, dmMo_expire_0, rmMo_expire, hm, nw_mod_I, nw_mod_L, nw_mod_sF, nw_mod_sG, q_f_1, q_f_2, q_g_1, q_g_2, nw_mod_ob, nw_mod_ln, nw_mod_rf, pk_mul, nw_b_t]; try simp (disch := omega) only [nw_b0, nw_b1, nw_ilt, nw_ile, nw_ieq, nw_icl, nw_iin, nI_add, and_true, true_and, and_false, false_and, not_false_eq_true, not_true_eq_false, false_implies, true_implies, Classical.not_not, ne_eq, reduceIte, Nat.reduceEqDiff, Nat.reduceLT, Nat.reduceLeDiff, Nat.reduceAdd, Nat.reduceSub, Nat.reduceMul, hm, nw_mod_I, nw_mod_L, nw_mod_sF, nw_mod_sG, q_f_1, q_f_2, q_g_1, q_g_2, nw_mod_ob, nw_mod_ln, nw_mod_rf, pk_mul, nw_b_t])
    exact loop 40 0 rfl _ _ _ _
  · have e1 : q_srv S x = false := by simpa using hx
    unfold q_expire
    rw [if_neg hx, e1]
    (apply V_s1 [14] 9; simp only [nwx_0, nwx_S, nw_s1, nw_pII, nw_pA, nw_tIs, nw_vis, nw_jpx, Option.isSome_some, Option.getD_some, nw_popn, nw_rok, nw_wok, nw_isR, nw_cd, nw_at, nw_put, nw_nl0, nw_nlS, nw_no2s, nw_ft, nw_l01, nw_ak, nw_tsw, nw_flat, Value.category, List.mem_cons, List.not_mem_nil, List.length_cons, List.length_nil, or_false, false_or, or_true, true_or, and_true, true_and, and_false, false_and, if_true, if_false, Option.some.injEq, Prod.mk.injEq, and_assoc, exists_and_left, exists_eq_left, exists_eq_left', exists_const, nw_ks, nw_f4, nw_fvs, nw_some, Nat.reduceAdd, nw_sz_I, nw_kd_I, nw_ln_I, nw_rf_I, nw_L_I, nw_I_I, nw_sz_L, nw_kd_L, nw_ln_L, nw_rf_L, nw_I_L, nw_L_L, nw_ob_I, nw_ob_L, nw_obr_I, nw_obr_L, nI_add, nw_b0, nw_b1, nw_b01, not_false_eq_true, not_true_eq_false, false_implies, true_implies, Classical.not_not, nw_i10, decide_eq_false_iff_not, decide_eq_true_eq, ne_eq, Option.toList_some, Option.toList_none, List.cons_append, List.nil_append, reduceIte, Nat.reduceEqDiff, Nat.reduceLT, Nat.reduceLeDiff, Nat.reduceSub, Nat.reduceMul, reduceCtorEq, ↓nwx_iconst, ↓nwx_ifCond, ↓nwx_ireturn, ↓nwx_istore_n, dmMo_expire_0, rmMo_expire, hm, nw_mod_I, nw_mod_L, nw_mod_sF, nw_mod_sG, q_f_1, q_f_2, q_g_1, q_g_2, nw_mod_ob, nw_mod_ln, nw_mod_rf, pk_mul, nw_b_f]; try simp (disch := omega) only [nw_b0, nw_b1, nw_ilt, nw_ile, nw_ieq, nw_icl, nw_iin, nI_add, and_true, true_and, and_false, false_and, not_false_eq_true, not_true_eq_false, false_implies, true_implies, Classical.not_not, ne_eq, reduceIte, Nat.reduceEqDiff, Nat.reduceLT, Nat.reduceLeDiff, Nat.reduceAdd, Nat.reduceSub, Nat.reduceMul, hm, nw_mod_I, nw_mod_L, nw_mod_sF, nw_mod_sG, q_f_1, q_f_2, q_g_1, q_g_2, nw_mod_ob, nw_mod_ln, nw_mod_rf, pk_mul, nw_b_f])
    exact ⟨rfl, rfl⟩
end MW
