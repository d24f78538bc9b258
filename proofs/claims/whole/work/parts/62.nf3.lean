/-! NewsFlood files what a server has received -/
def k_f1 (n s : Nat) (w : nw_W) : nw_W := nw_setI w (nw_S n s 6) (upd (upd (upd (upd (nw_I w (nw_S n s 6)) 0 (nI 0)) 1 (nI 0)) 2 (nI 0)) 3 (-1))
def k_f2 (n s i : Nat) (w : nw_W) : nw_W := nw_hold n s i (nw_I w (nw_A n + 1 + i) 2) (nw_setI (nw_setI (k_f1 n s w) (nw_S n s 17) (upd (nw_I w (nw_S n s 17)) i (nw_I w (nw_S n s 6) 2))) (nw_S n s 16) (upd (nw_I w (nw_S n s 16)) i (nw_I w 1 5))) 6
def k_f3 (n s i : Nat) (w : nw_W) : nw_W := k_enter n s i (nI 1) (k_until n w i) (k_f2 n s i w)
abbrev k_f4 (n s i : Nat) (sd : Int32) (w3 w4 : nw_W) : Prop := (sd = -1 ∧ w4 = w3) ∨ ∃ t q, t < n ∧ sd = nI t ∧ q ≤ 24 ∧ nw_I w3 (nw_S n t (20 + 2 * s)) 1 = nI q ∧ nw_rmv w3 (nw_S n t (20 + 2 * s)) (nw_S n t (21 + 2 * s)) (nI i) q none w4
abbrev k_fil (n s i G c : Nat) (sd : Int32) (w : nw_W) : Option Value → nw_W → Prop := fun r w' => r = none ∧ ∃ w4, k_f4 n s i sd (k_f3 n s i w) w4 ∧ (c = 0 → w' = k_feed n s i G w4 n) ∧ (¬ c = 0 → k_can n s c (k_feed n s i G w4 n) none w')
theorem nw_A_ne {n s k j : Nat} (hs : s < n) (hk : k < 20 + 2 * n) : nw_A n + j ≠ nw_S n s k := by
  have := nw_S_lt hs hk
  omega
theorem nw_1_ne {n s k : Nat} : 1 ≠ nw_S n s k := by
  have := nw_S_3 n s k
  omega
/-- rows that filing leaves alone, up to the entry -/
theorem k_f2_ok {n s i : Nat} {w : nw_W} : (k_f2 n s i w).1 = w.1 ∧ nw_L (k_f2 n s i w) = nw_L w ∧ ∀ a, a ≠ nw_S n s 6 → a ≠ nw_S n s 8 → a ≠ nw_S n s 16 → a ≠ nw_S n s 17 → (∀ g, g < 6 → a ≠ nw_S n s (10 + g)) → nw_I (k_f2 n s i w) a = nw_I w a := by
  obtain ⟨h1, h2, h3, -, -⟩ := nw_hold_ok n s i (nw_I w (nw_A n + 1 + i) 2) (nw_setI (nw_setI (k_f1 n s w) (nw_S n s 17) (upd (nw_I w (nw_S n s 17)) i (nw_I w (nw_S n s 6) 2))) (nw_S n s 16) (upd (nw_I w (nw_S n s 16)) i (nw_I w 1 5))) 6 (Nat.le_refl _)
  refine ⟨h1, h2, fun a a6 a8 a16 a17 ag => ?_⟩
  unfold k_f2
  rw [h3 a a8 ag, nw_I_I, va_up_ne _ _ a16, nw_I_I, va_up_ne _ _ a17]
  unfold k_f1
  rw [nw_I_I, va_up_ne _ _ a6]
theorem k_f3_ok {n s i : Nat} {w : nw_W} : (k_f3 n s i w).1 = w.1 ∧ nw_L (k_f3 n s i w) = nw_L w ∧ ∀ a, a ≠ nw_S n s 3 → a ≠ nw_S n s 4 → a ≠ nw_S n s 5 → nw_I (k_f3 n s i w) a = nw_I (k_f2 n s i w) a := by
  obtain ⟨h1, h2, -⟩ := k_f2_ok (n := n) (s := s) (i := i) (w := w)
  unfold k_f3 k_enter
  split
  · exact ⟨h1, h2, fun _ _ _ _ => rfl⟩
  · refine ⟨h1, h2, fun a a3 a4 a5 => ?_⟩
    rw [nw_I_I, va_up_ne _ _ a3, nw_I_I, va_up_ne _ _ a5, nw_I_I, va_up_ne _ _ a4]
theorem k_f4_1 {n s i : Nat} {sd : Int32} {w3 w4 : nw_W} (h : k_f4 n s i sd w3 w4) : w4.1 = w3.1 ∧ nw_L w4 = nw_L w3 ∧ ∀ a, (∀ t, t < n → a ≠ nw_S n t (20 + 2 * s) ∧ a ≠ nw_S n t (21 + 2 * s)) → nw_I w4 a = nw_I w3 a := by
  rcases h with ⟨-, rfl⟩ | ⟨t, q, ht, -, -, -, -, f, c, rfl, -⟩
  · exact ⟨rfl, rfl, fun _ _ => rfl⟩
  · exact ⟨rfl, rfl, fun a ha => by rw [nw_I_I, va_up_ne _ _ (ha t ht).1, nw_I_I, va_up_ne _ _ (ha t ht).2]⟩
section NH
variable {n : Nat} {w : nw_W}
set_option maxRecDepth 20000 in
theorem c_Nf_fileIntake {s i G c : Nat} (hs : s < n) (hi1 : 1 ≤ i) (hi : i ≤ 40) (hG : G ≤ 6) (hg : nw_I w 1 4 = nI G) (h60 : nw_I w (nw_S n s 6) 0 = nI i) (hc5 : nw_I w (nw_A n + 1 + i) 5 = nI c) (hc40 : c ≤ 40) (hsd : nw_I w (nw_S n s 6) 3 = -1 ∨ ∃ t, t < n ∧ nw_I w (nw_S n s 6) 3 = nI t)
    (hq : ∀ t, t < n → ∃ q, q ≤ 24 ∧ nw_I w (nw_S n t (20 + 2 * s)) 1 = nI q) (h24 : ∀ w4, k_f4 n s i (nw_I w (nw_S n s 6) 3) (k_f3 n s i w) w4 → ∀ t, t < n → ∃ q, q < 24 ∧ nw_I w4 (nw_S n s (20 + 2 * t)) 1 = nI q) (hO : nw_Ok n w) : V mNf_fileIntake 0 (nw_ent mNf_fileIntake [.ref 1, .int (nI s)]) [] w 0 0 (k_fil n s i G c (nw_I w (nw_S n s 6) 3) w) := by
  have hn4 := hO.2.1
  have hc := nw_cf hO
  have hsv := nw_cs hO hs
  have hv := nw_Ok_sv hO hs
  unfold nw_Sv at hv
  have ha := nw_ca' hO hi
  have hcs : (nI s).toNatClampNeg = s := nI_clamp (by omega)
  have hci : (nI i).toNatClampNeg = i := nI_clamp (by omega)
  generalize hsd' : nw_I w (nw_S n s 6) 3 = sd at hsd h24
  generalize hQ : k_fil n s i G c sd w = Q
  rw [emNf_fileIntake]
  (apply V_s1 [] 27; simp only [nwx_0, nwx_S, nw_s1, nw_pII, nw_pA, nw_tIs, nw_vis, nw_jpx, Option.isSome_some, Option.getD_some, nw_popn, nw_rok, nw_wok, nw_isR, nw_cd, nw_at, nw_put, nw_nl0, nw_nlS, nw_no2s, nw_ft, nw_l01, nw_ak, nw_tsw, nw_flat, Value.category, List.mem_cons, List.not_mem_nil, List.length_cons, List.length_nil, or_false, false_or, or_true, true_or, and_true, true_and, and_false, false_and, if_true, if_false, Option.some.injEq, Prod.mk.injEq, and_assoc, exists_and_left, exists_eq_left, exists_eq_left', exists_const, nw_ks, nw_f4, nw_fvs, nw_some, Nat.reduceAdd, nw_sz_I, nw_kd_I, nw_ln_I, nw_rf_I, nw_L_I, nw_I_I, nw_sz_L, nw_kd_L, nw_ln_L, nw_rf_L, nw_I_L, nw_L_L, nw_ob_I, nw_ob_L, nw_obr_I, nw_obr_L, nI_add, nw_b0, nw_b1, nw_b01, not_false_eq_true, not_true_eq_false, false_implies, true_implies, Classical.not_not, nw_i10, decide_eq_false_iff_not, decide_eq_true_eq, ne_eq, Option.toList_some, Option.toList_none, List.cons_append, List.nil_append, reduceIte, Nat.reduceEqDiff, Nat.reduceLT, Nat.reduceLeDiff, Nat.reduceSub, Nat.reduceMul, reduceCtorEq, ↓nwx_aaload, ↓nwx_aload_n, ↓nwx_astore, ↓nwx_astore_n, ↓nwx_getfield, ↓nwx_iload_n, ↓nwx_invokevirtual, ↓nwx_istore, ↓nwx_istore_n, dmNf_fileIntake_0, rmNf_fileIntake, hc, hsv, hv, ha, hcs, hci, h60, hsd']; try simp (disch := omega) only [nw_b0, nw_b1, nw_ilt, nw_ile, nw_ieq, nw_icl, nw_iin, nI_add, and_true, true_and, and_false, false_and, not_false_eq_true, not_true_eq_false, false_implies, true_implies, Classical.not_not, ne_eq, reduceIte, Nat.reduceEqDiff, Nat.reduceLT, Nat.reduceLeDiff, Nat.reduceAdd, Nat.reduceSub, Nat.reduceMul, hc, hsv, hv, ha, hcs, hci, h60, hsd'])
  refine ⟨hs, by omega, nw_do0 (c_In_close hv.2.2.2.2.2.2.2.2.2.2.2.2.2.2.2.2.2.2.2.2.2.2.1) ?_⟩
  rintro r w' ⟨rfl, rfl⟩
  change V mNf_fileIntake 48 _ _ (k_f1 n s w) 0 0 Q
  have hA : ∀ k, k < 20 + 2 * n → nw_A n + 1 + i ≠ nw_S n s k := fun k hk => by
    have := nw_S_lt hs hk
    omega
  have hO1 : nw_Ok n (k_f1 n s w) := nw_Ok_1 (w := w) rfl hO
  have hc1 := nw_cf hO1
  have hv1 := nw_Ok_sv hO1 hs
  unfold nw_Sv at hv1
  have ha1 := nw_ca' hO1 hi
  have eA1 : nw_I (k_f1 n s w) (nw_A n + 1 + i) = nw_I w (nw_A n + 1 + i) := by
    unfold k_f1
    rw [nw_I_I, va_up_ne _ _ (hA 6 (by omega))]
  have eC1 : nw_I (k_f1 n s w) 1 = nw_I w 1 := by
    unfold k_f1
    rw [nw_I_I, va_up_ne _ _ nw_1_ne]
  have e17 : nw_I (k_f1 n s w) (nw_S n s 17) = nw_I w (nw_S n s 17) := nw_S_Ine (by decide)
  have e16 : nw_I (k_f1 n s w) (nw_S n s 16) = nw_I w (nw_S n s 16) := nw_S_Ine (by decide)
  (apply V_s1 [] 10; simp only [nwx_0, nwx_S, nw_s1, nw_pII, nw_pA, nw_tIs, nw_vis, nw_jpx, Option.isSome_some, Option.getD_some, nw_popn, nw_rok, nw_wok, nw_isR, nw_cd, nw_at, nw_put, nw_nl0, nw_nlS, nw_no2s, nw_ft, nw_l01, nw_ak, nw_tsw, nw_flat, Value.category, List.mem_cons, List.not_mem_nil, List.length_cons, List.length_nil, or_false, false_or, or_true, true_or, and_true, true_and, and_false, false_and, if_true, if_false, Option.some.injEq, Prod.mk.injEq, and_assoc, exists_and_left, exists_eq_left, exists_eq_left', exists_const, nw_ks, nw_f4, nw_fvs, nw_some, Nat.reduceAdd, nw_sz_I, nw_kd_I, nw_ln_I, nw_rf_I, nw_L_I, nw_I_I, nw_sz_L, nw_kd_L, nw_ln_L, nw_rf_L, nw_I_L, nw_L_L, nw_ob_I, nw_ob_L, nw_obr_I, nw_obr_L, nI_add, nw_b0, nw_b1, nw_b01, not_false_eq_true, not_true_eq_false, false_implies, true_implies, Classical.not_not, nw_i10, decide_eq_false_iff_not, decide_eq_true_eq, ne_eq, Option.toList_some, Option.toList_none, List.cons_append, List.nil_append, reduceIte, Nat.reduceEqDiff, Nat.reduceLT, Nat.reduceLeDiff, Nat.reduceSub, Nat.reduceMul, reduceCtorEq, ↓nwx_aload, ↓nwx_aload_n, ↓nwx_getfield, ↓nwx_iload, ↓nwx_iload_n, ↓nwx_invokevirtual, dmNf_fileIntake_0, rmNf_fileIntake, hc1, hv1, ha1, eA1, eC1]; try simp (disch := omega) only [nw_b0, nw_b1, nw_ilt, nw_ile, nw_ieq, nw_icl, nw_iin, nI_add, and_true, true_and, and_false, false_and, not_false_eq_true, not_true_eq_false, false_implies, true_implies, Classical.not_not, ne_eq, reduceIte, Nat.reduceEqDiff, Nat.reduceLT, Nat.reduceLeDiff, Nat.reduceAdd, Nat.reduceSub, Nat.reduceMul, hc1, hv1, ha1, eA1, eC1])
  refine nw_do0 (c_Se_hold _ _ _ hi hO1 hs) ?_
  rintro r w' ⟨rfl, rfl⟩
  rw [e17, e16]
  change V mNf_fileIntake 64 _ _ (k_f2 n s i w) 0 0 Q
  obtain ⟨o1, o2, o3⟩ := k_f2_ok (n := n) (s := s) (i := i) (w := w)
  have hO2 : nw_Ok n (k_f2 n s i w) := nw_Ok_1 o1 hO
  have hc2 := nw_cf hO2
  have hv2 := nw_Ok_sv hO2 hs
  unfold nw_Sv at hv2
  have ha2 := nw_ca' hO2 hi
  have eA2 : nw_I (k_f2 n s i w) (nw_A n + 1 + i) = nw_I w (nw_A n + 1 + i) := o3 _ (hA 6 (by omega)) (hA 8 (by omega)) (hA 16 (by omega)) (hA 17 (by omega)) (fun g hg => hA (10 + g) (by omega))
  have eC2 : nw_I (k_f2 n s i w) 1 = nw_I w 1 := o3 _ nw_1_ne nw_1_ne nw_1_ne nw_1_ne (fun g _ => nw_1_ne)
  have eU : k_until n (k_f2 n s i w) i = k_until n w i := by
    unfold k_until
    rw [eA2, eC2]
  (apply V_s1 [] 9; simp only [nwx_0, nwx_S, nw_s1, nw_pII, nw_pA, nw_tIs, nw_vis, nw_jpx, Option.isSome_some, Option.getD_some, nw_popn, nw_rok, nw_wok, nw_isR, nw_cd, nw_at, nw_put, nw_nl0, nw_nlS, nw_no2s, nw_ft, nw_l01, nw_ak, nw_tsw, nw_flat, Value.category, List.mem_cons, List.not_mem_nil, List.length_cons, List.length_nil, or_false, false_or, or_true, true_or, and_true, true_and, and_false, false_and, if_true, if_false, Option.some.injEq, Prod.mk.injEq, and_assoc, exists_and_left, exists_eq_left, exists_eq_left', exists_const, nw_ks, nw_f4, nw_fvs, nw_some, Nat.reduceAdd, nw_sz_I, nw_kd_I, nw_ln_I, nw_rf_I, nw_L_I, nw_I_I, nw_sz_L, nw_kd_L, nw_ln_L, nw_rf_L, nw_I_L, nw_L_L, nw_ob_I, nw_ob_L, nw_obr_I, nw_obr_L, nI_add, nw_b0, nw_b1, nw_b01, not_false_eq_true, not_true_eq_false, false_implies, true_implies, Classical.not_not, nw_i10, decide_eq_false_iff_not, decide_eq_true_eq, ne_eq, Option.toList_some, Option.toList_none, List.cons_append, List.nil_append, reduceIte, Nat.reduceEqDiff, Nat.reduceLT, Nat.reduceLeDiff, Nat.reduceSub, Nat.reduceMul, reduceCtorEq, ↓nwx_aload, ↓nwx_aload_n, ↓nwx_getfield, ↓nwx_iconst, ↓nwx_iload_n, ↓nwx_invokevirtual, dmNf_fileIntake_0, rmNf_fileIntake, hc2, hv2, ha2]; try simp (disch := omega) only [nw_b0, nw_b1, nw_ilt, nw_ile, nw_ieq, nw_icl, nw_iin, nI_add, and_true, true_and, and_false, false_and, not_false_eq_true, not_true_eq_false, false_implies, true_implies, Classical.not_not, ne_eq, reduceIte, Nat.reduceEqDiff, Nat.reduceLT, Nat.reduceLeDiff, Nat.reduceAdd, Nat.reduceSub, Nat.reduceMul, hc2, hv2, ha2])
  refine nw_do0 (c_Nf_untilOf hi hO2) ?_
  rintro r w' ⟨rfl, rfl⟩
  rw [eU]
  (apply V_s1 [] 3; simp only [nwx_0, nwx_S, nw_s1, nw_pII, nw_pA, nw_tIs, nw_vis, nw_jpx, Option.isSome_some, Option.getD_some, nw_popn, nw_rok, nw_wok, nw_isR, nw_cd, nw_at, nw_put, nw_nl0, nw_nlS, nw_no2s, nw_ft, nw_l01, nw_ak, nw_tsw, nw_flat, Value.category, List.mem_cons, List.not_mem_nil, List.length_cons, List.length_nil, or_false, false_or, or_true, true_or, and_true, true_and, and_false, false_and, if_true, if_false, Option.some.injEq, Prod.mk.injEq, and_assoc, exists_and_left, exists_eq_left, exists_eq_left', exists_const, nw_ks, nw_f4, nw_fvs, nw_some, Nat.reduceAdd, nw_sz_I, nw_kd_I, nw_ln_I, nw_rf_I, nw_L_I, nw_I_I, nw_sz_L, nw_kd_L, nw_ln_L, nw_rf_L, nw_I_L, nw_L_L, nw_ob_I, nw_ob_L, nw_obr_I, nw_obr_L, nI_add, nw_b0, nw_b1, nw_b01, not_false_eq_true, not_true_eq_false, false_implies, true_implies, Classical.not_not, nw_i10, decide_eq_false_iff_not, decide_eq_true_eq, ne_eq, Option.toList_some, Option.toList_none, List.cons_append, List.nil_append, reduceIte, Nat.reduceEqDiff, Nat.reduceLT, Nat.reduceLeDiff, Nat.reduceSub, Nat.reduceMul, reduceCtorEq, ↓nwx_invokevirtual, dmNf_fileIntake_1, rmNf_fileIntake, hc2, hv2, ha2]; try simp (disch := omega) only [nw_b0, nw_b1, nw_ilt, nw_ile, nw_ieq, nw_icl, nw_iin, nI_add, and_true, true_and, and_false, false_and, not_false_eq_true, not_true_eq_false, false_implies, true_implies, Classical.not_not, ne_eq, reduceIte, Nat.reduceEqDiff, Nat.reduceLT, Nat.reduceLeDiff, Nat.reduceAdd, Nat.reduceSub, Nat.reduceMul, hc2, hv2, ha2])
  have v3 := hv2.2.2.2.2.2.2.2.2.2.2.2.2.2.2.2
  refine nw_do0 (c_En_enter (k := nw_S n s 4) (u := nw_S n s 5) _ _ hi v3.1 v3.2.1 v3.2.2.1 v3.2.2.2.1 v3.2.2.2.2.1 v3.2.2.2.2.2.1 v3.2.2.2.2.2.2.1 (by rw [nw_Sk]; decide) (by rw [nw_Sk]; decide) (by rw [nw_Sk]; decide)) ?_
  rintro r w' ⟨rfl, rfl⟩
  change V mNf_fileIntake 79 _ _ (k_f3 n s i w) 0 0 Q
  obtain ⟨p1, p2, p3⟩ := k_f3_ok (n := n) (s := s) (i := i) (w := w)
  have hO3 : nw_Ok n (k_f3 n s i w) := nw_Ok_1 p1 hO
  have hc3 := nw_cf hO3
  have eA3 : nw_I (k_f3 n s i w) (nw_A n + 1 + i) = nw_I w (nw_A n + 1 + i) := (p3 _ (hA 3 (by omega)) (hA 4 (by omega)) (hA 5 (by omega))).trans eA2
  have eC3 : nw_I (k_f3 n s i w) 1 = nw_I w 1 := (p3 _ nw_1_ne nw_1_ne nw_1_ne).trans eC2
  -- behind the sender's backlog
  have p101 : ∀ w4, k_f4 n s i sd (k_f3 n s i w) w4 → V mNf_fileIntake 101 [.ref 1, .int (nI s), .ref (nw_S n s 0), .int (nI i), .int (nw_I w (nw_S n s 6) 2), .int sd, .ref (nw_A n + 1 + i)] [] w4 0 0 Q := fun w4 h4 => by
    obtain ⟨q1, q2, q3⟩ := k_f4_1 h4
    have hO4 : nw_Ok n w4 := nw_Ok_1 (q1.trans p1) hO
    have hc4 := nw_cf hO4
    have hv4 := (nw_Ok_sv hO4 hs).1
    have hA4 : ∀ t k, t < n → k < 20 + 2 * n → nw_A n + 1 + i ≠ nw_S n t k := fun t k ht hk => by
      have := nw_S_lt ht hk
      omega
    have eA4 : nw_I w4 (nw_A n + 1 + i) = nw_I w (nw_A n + 1 + i) := (q3 _ (fun t ht => ⟨hA4 t _ ht (by omega), hA4 t _ ht (by omega)⟩)).trans eA3
    have eC4 : nw_I w4 1 = nw_I w 1 := (q3 _ (fun t ht => ⟨nw_1_ne, nw_1_ne⟩)).trans eC3
    (apply V_s1 [] 6; simp only [nwx_0, nwx_S, nw_s1, nw_pII, nw_pA, nw_tIs, nw_vis, nw_jpx, Option.isSome_some, Option.getD_some, nw_popn, nw_rok, nw_wok, nw_isR, nw_cd, nw_at, nw_put, nw_nl0, nw_nlS, nw_no2s, nw_ft, nw_l01, nw_ak, nw_tsw, nw_flat, Value.category, List.mem_cons, List.not_mem_nil, List.length_cons, List.length_nil, or_false, false_or, or_true, true_or, and_true, true_and, and_false, false_and, if_true, if_false, Option.some.injEq, Prod.mk.injEq, and_assoc, exists_and_left, exists_eq_left, exists_eq_left', exists_const, nw_ks, nw_f4, nw_fvs, nw_some, Nat.reduceAdd, nw_sz_I, nw_kd_I, nw_ln_I, nw_rf_I, nw_L_I, nw_I_I, nw_sz_L, nw_kd_L, nw_ln_L, nw_rf_L, nw_I_L, nw_L_L, nw_ob_I, nw_ob_L, nw_obr_I, nw_obr_L, nI_add, nw_b0, nw_b1, nw_b01, not_false_eq_true, not_true_eq_false, false_implies, true_implies, Classical.not_not, nw_i10, decide_eq_false_iff_not, decide_eq_true_eq, ne_eq, Option.toList_some, Option.toList_none, List.cons_append, List.nil_append, reduceIte, Nat.reduceEqDiff, Nat.reduceLT, Nat.reduceLeDiff, Nat.reduceSub, Nat.reduceMul, reduceCtorEq, ↓nwx_aload_n, ↓nwx_iload_n, ↓nwx_invokevirtual, dmNf_fileIntake_1, rmNf_fileIntake, hc4, hv4]; try simp (disch := omega) only [nw_b0, nw_b1, nw_ilt, nw_ile, nw_ieq, nw_icl, nw_iin, nI_add, and_true, true_and, and_false, false_and, not_false_eq_true, not_true_eq_false, false_implies, true_implies, Classical.not_not, ne_eq, reduceIte, Nat.reduceEqDiff, Nat.reduceLT, Nat.reduceLeDiff, Nat.reduceAdd, Nat.reduceSub, Nat.reduceMul, hc4, hv4])
    refine nw_do0 (c_Nf_feedOthers hs hi hG (by rw [eC4]; exact hg) (h24 w4 h4) hO4) ?_
    rintro r w' ⟨rfl, rfl⟩
    obtain ⟨r1, r2, r3, r4⟩ := k_feed_ok n s i G w4 n
    have hO5 : nw_Ok n (k_feed n s i G w4 n) := nw_Ok_1 r1 hO4
    have hc5' := nw_cf hO5
    have ha5 := nw_ca' hO5 hi
    have hv5 := (nw_Ok_sv hO5 hs).1
    have eA5 : nw_I (k_feed n s i G w4 n) (nw_A n + 1 + i) = nw_I w (nw_A n + 1 + i) := (r3 _ (fun t ht => ⟨hA _ (by omega), hA _ (by omega)⟩)).trans eA4
    (apply V_s1 [] 11; simp only [nwx_0, nwx_S, nw_s1, nw_pII, nw_pA, nw_tIs, nw_vis, nw_jpx, Option.isSome_some, Option.getD_some, nw_popn, nw_rok, nw_wok, nw_isR, nw_cd, nw_at, nw_put, nw_nl0, nw_nlS, nw_no2s, nw_ft, nw_l01, nw_ak, nw_tsw, nw_flat, Value.category, List.mem_cons, List.not_mem_nil, List.length_cons, List.length_nil, or_false, false_or, or_true, true_or, and_true, true_and, and_false, false_and, if_true, if_false, Option.some.injEq, Prod.mk.injEq, and_assoc, exists_and_left, exists_eq_left, exists_eq_left', exists_const, nw_ks, nw_f4, nw_fvs, nw_some, Nat.reduceAdd, nw_sz_I, nw_kd_I, nw_ln_I, nw_rf_I, nw_L_I, nw_I_I, nw_sz_L, nw_kd_L, nw_ln_L, nw_rf_L, nw_I_L, nw_L_L, nw_ob_I, nw_ob_L, nw_obr_I, nw_obr_L, nI_add, nw_b0, nw_b1, nw_b01, not_false_eq_true, not_true_eq_false, false_implies, true_implies, Classical.not_not, nw_i10, decide_eq_false_iff_not, decide_eq_true_eq, ne_eq, Option.toList_some, Option.toList_none, List.cons_append, List.nil_append, reduceIte, Nat.reduceEqDiff, Nat.reduceLT, Nat.reduceLeDiff, Nat.reduceSub, Nat.reduceMul, reduceCtorEq, ↓nwx_aload, ↓nwx_aload_n, ↓nwx_getfield, ↓nwx_ifCond, ↓nwx_invokevirtual, ↓nwx_return_, dmNf_fileIntake_1, rmNf_fileIntake, hc5', ha5, hv5, eA5, hc5]; try simp (disch := omega) only [nw_b0, nw_b1, nw_ilt, nw_ile, nw_ieq, nw_icl, nw_iin, nI_add, and_true, true_and, and_false, false_and, not_false_eq_true, not_true_eq_false, false_implies, true_implies, Classical.not_not, ne_eq, reduceIte, Nat.reduceEqDiff, Nat.reduceLT, Nat.reduceLeDiff, Nat.reduceAdd, Nat.reduceSub, Nat.reduceMul, hc5', ha5, hv5, eA5, hc5])
    refine ⟨fun hz => ?_, fun hz => ?_⟩
    · rw [← hQ]
      exact ⟨rfl, w4, h4, fun _ => rfl, fun q => absurd hz q⟩
    · refine nw_do0 (c_Nf_cancelAt hs hc40 (fun t ht => ?_) hO5) ?_
      · obtain ⟨q, g1, g2⟩ := h24 w4 h4 t ht
        rw [(r4 t ht).1]
        split
        · exact ⟨q + 1, by omega, by rw [pk_us, g2, nI_clamp (by omega)]⟩
        · exact ⟨q, by omega, g2⟩
      · rintro r w' hcan
        obtain ⟨rfl, hcan⟩ := hcan
        (apply V_s1 [] 3; simp only [nwx_0, nwx_S, nw_s1, nw_pII, nw_pA, nw_tIs, nw_vis, nw_jpx, Option.isSome_some, Option.getD_some, nw_popn, nw_rok, nw_wok, nw_isR, nw_cd, nw_at, nw_put, nw_nl0, nw_nlS, nw_no2s, nw_ft, nw_l01, nw_ak, nw_tsw, nw_flat, Value.category, List.mem_cons, List.not_mem_nil, List.length_cons, List.length_nil, or_false, false_or, or_true, true_or, and_true, true_and, and_false, false_and, if_true, if_false, Option.some.injEq, Prod.mk.injEq, and_assoc, exists_and_left, exists_eq_left, exists_eq_left', exists_const, nw_ks, nw_f4, nw_fvs, nw_some, Nat.reduceAdd, nw_sz_I, nw_kd_I, nw_ln_I, nw_rf_I, nw_L_I, nw_I_I, nw_sz_L, nw_kd_L, nw_ln_L, nw_rf_L, nw_I_L, nw_L_L, nw_ob_I, nw_ob_L, nw_obr_I, nw_obr_L, nI_add, nw_b0, nw_b1, nw_b01, not_false_eq_true, not_true_eq_false, false_implies, true_implies, Classical.not_not, nw_i10, decide_eq_false_iff_not, decide_eq_true_eq, ne_eq, Option.toList_some, Option.toList_none, List.cons_append, List.nil_append, reduceIte, Nat.reduceEqDiff, Nat.reduceLT, Nat.reduceLeDiff, Nat.reduceSub, Nat.reduceMul, reduceCtorEq, ↓nwx_return_, dmNf_fileIntake_1, rmNf_fileIntake]; try simp (disch := omega) only [nw_b0, nw_b1, nw_ilt, nw_ile, nw_ieq, nw_icl, nw_iin, nI_add, and_true, true_and, and_false, false_and, not_false_eq_true, not_true_eq_false, false_implies, true_implies, Classical.not_not, ne_eq, reduceIte, Nat.reduceEqDiff, Nat.reduceLT, Nat.reduceLeDiff, Nat.reduceAdd, Nat.reduceSub, Nat.reduceMul])
        rw [← hQ]
        exact ⟨rfl, w4, h4, fun q => absurd q hz, fun _ => ⟨rfl, hcan⟩⟩
  rcases hsd with hsd | ⟨t, ht, hsd⟩
  · (apply V_s1 [101] 14; simp only [nwx_0, nwx_S, nw_s1, nw_pII, nw_pA, nw_tIs, nw_vis, nw_jpx, Option.isSome_some, Option.getD_some, nw_popn, nw_rok, nw_wok, nw_isR, nw_cd, nw_at, nw_put, nw_nl0, nw_nlS, nw_no2s, nw_ft, nw_l01, nw_ak, nw_tsw, nw_flat, Value.category, List.mem_cons, List.not_mem_nil, List.length_cons, List.length_nil, or_false, false_or, or_true, true_or, and_true, true_and, and_false, false_and, if_true, if_false, Option.some.injEq, Prod.mk.injEq, and_assoc, exists_and_left, exists_eq_left, exists_eq_left', exists_const, nw_ks, nw_f4, nw_fvs, nw_some, Nat.reduceAdd, nw_sz_I, nw_kd_I, nw_ln_I, nw_rf_I, nw_L_I, nw_I_I, nw_sz_L, nw_kd_L, nw_ln_L, nw_rf_L, nw_I_L, nw_L_L, nw_ob_I, nw_ob_L, nw_obr_I, nw_obr_L, nI_add, nw_b0, nw_b1, nw_b01, not_false_eq_true, not_true_eq_false, false_implies, true_implies, Classical.not_not, nw_i10, decide_eq_false_iff_not, decide_eq_true_eq, ne_eq, Option.toList_some, Option.toList_none, List.cons_append, List.nil_append, reduceIte, Nat.reduceEqDiff, Nat.reduceLT, Nat.reduceLeDiff, Nat.reduceSub, Nat.reduceMul, reduceCtorEq, ↓nwx_aaload, ↓nwx_aload_n, ↓nwx_getfield, ↓nwx_iconst, ↓nwx_if_icmp, ↓nwx_iload, ↓nwx_iload_n, ↓nwx_invokevirtual, dmNf_fileIntake_1, rmNf_fileIntake, hsd]; try simp (disch := omega) only [nw_b0, nw_b1, nw_ilt, nw_ile, nw_ieq, nw_icl, nw_iin, nI_add, and_true, true_and, and_false, false_and, not_false_eq_true, not_true_eq_false, false_implies, true_implies, Classical.not_not, ne_eq, reduceIte, Nat.reduceEqDiff, Nat.reduceLT, Nat.reduceLeDiff, Nat.reduceAdd, Nat.reduceSub, Nat.reduceMul, hsd])
    rw [hsd] at p101
    exact p101 _ (Or.inl ⟨rfl, rfl⟩)
  · have hst := nw_cs hO3 ht
    have hvt := nw_Ok_sv hO3 ht
    have h9t := nw_Sv_9 hvt
    unfold nw_Sv at hvt
    have htt := nw_Ok_st hO3 ht hs
    unfold nw_St at htt
    have hct : (nI t).toNatClampNeg = t := nI_clamp (by omega)
    (apply V_s1 [101] 14; simp only [nwx_0, nwx_S, nw_s1, nw_pII, nw_pA, nw_tIs, nw_vis, nw_jpx, Option.isSome_some, Option.getD_some, nw_popn, nw_rok, nw_wok, nw_isR, nw_cd, nw_at, nw_put, nw_nl0, nw_nlS, nw_no2s, nw_ft, nw_l01, nw_ak, nw_tsw, nw_flat, Value.category, List.mem_cons, List.not_mem_nil, List.length_cons, List.length_nil, or_false, false_or, or_true, true_or, and_true, true_and, and_false, false_and, if_true, if_false, Option.some.injEq, Prod.mk.injEq, and_assoc, exists_and_left, exists_eq_left, exists_eq_left', exists_const, nw_ks, nw_f4, nw_fvs, nw_some, Nat.reduceAdd, nw_sz_I, nw_kd_I, nw_ln_I, nw_rf_I, nw_L_I, nw_I_I, nw_sz_L, nw_kd_L, nw_ln_L, nw_rf_L, nw_I_L, nw_L_L, nw_ob_I, nw_ob_L, nw_obr_I, nw_obr_L, nI_add, nw_b0, nw_b1, nw_b01, not_false_eq_true, not_true_eq_false, false_implies, true_implies, Classical.not_not, nw_i10, decide_eq_false_iff_not, decide_eq_true_eq, ne_eq, Option.toList_some, Option.toList_none, List.cons_append, List.nil_append, reduceIte, Nat.reduceEqDiff, Nat.reduceLT, Nat.reduceLeDiff, Nat.reduceSub, Nat.reduceMul, reduceCtorEq, ↓nwx_aaload, ↓nwx_aload_n, ↓nwx_getfield, ↓nwx_iconst, ↓nwx_if_icmp, ↓nwx_iload, ↓nwx_iload_n, ↓nwx_invokevirtual, dmNf_fileIntake_1, rmNf_fileIntake, hsd, nw_im1, hc3, hst, hvt, h9t, htt, hct, hcs]; try simp (disch := omega) only [nw_b0, nw_b1, nw_ilt, nw_ile, nw_ieq, nw_icl, nw_iin, nI_add, and_true, true_and, and_false, false_and, not_false_eq_true, not_true_eq_false, false_implies, true_implies, Classical.not_not, ne_eq, reduceIte, Nat.reduceEqDiff, Nat.reduceLT, Nat.reduceLeDiff, Nat.reduceAdd, Nat.reduceSub, Nat.reduceMul, hsd, nw_im1, hc3, hst, hvt, h9t, htt, hct, hcs])
    obtain ⟨q, g1, g2⟩ := hq t ht
    have hne : ∀ k, k < 20 → nw_S n t (20 + 2 * s) ≠ nw_S n s k := fun k hk => by
      rw [Ne, nw_Sst (by omega) (by omega)]
      omega
    have e20 : nw_I (k_f3 n s i w) (nw_S n t (20 + 2 * s)) = nw_I w (nw_S n t (20 + 2 * s)) := (p3 _ (hne 3 (by omega)) (hne 4 (by omega)) (hne 5 (by omega))).trans (o3 _ (hne 6 (by omega)) (hne 8 (by omega)) (hne 16 (by omega)) (hne 17 (by omega)) (fun g hg => hne (10 + g) (by omega)))
    refine ⟨ht, hs, nw_do0 (c_Ba_remove (q := q) (nI i) g1 htt.2.1 htt.2.2.1 htt.2.2.2.1 htt.2.2.2.2 (by rw [e20]; exact g2) (by rw [nw_Sk]; omega)) ?_⟩
    rintro r w4 ⟨rfl, hf⟩
    rw [hsd] at p101
    exact p101 w4 (Or.inr ⟨t, q, ht, rfl, g1, by rw [e20]; exact g2, rfl, hf⟩)
end NH
