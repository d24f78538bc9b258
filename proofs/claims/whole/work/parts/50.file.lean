/-! the reference files an article -/
theorem q_numF_1 (S : nw_Q) (s i : Nat) {f : Nat} (h1 : f ≠ 11) (h2 : f ≠ 17) : ∀ g, (q_numF S s i g).1 f = S.1 f
  | 0 => rfl
  | g + 1 => by
    have ih := q_numF_1 S s i h1 h2 g
    simp only [q_numF]
    split
    · rw [q_i_1, if_neg h2, q_i_1, if_neg h1, ih]
    · rw [q_i_1, if_neg h2, q_i_1, if_neg h1, ih]
theorem q_numF_2 (S : nw_Q) (s i : Nat) : ∀ g, (q_numF S s i g).2 = S.2
  | 0 => rfl
  | g + 1 => by
    have ih := q_numF_2 S s i g
    simp only [q_numF]
    split
    · rw [q_i_2, q_i_2, ih]
    · rw [q_i_2, q_i_2, ih]
theorem q_feedF_1 (S : nw_Q) (s i : Nat) {f : Nat} (h1 : f ≠ 19) (h2 : f ≠ 20) : ∀ t, (q_feedF S s i t).1 f = S.1 f
  | 0 => rfl
  | t + 1 => by
    have ih := q_feedF_1 S s i h1 h2 t
    simp only [q_feedF]
    split
    · rw [q_i_1, if_neg h2, q_i_1, if_neg h1, ih]
    · exact ih
theorem q_feedF_2 (S : nw_Q) (s i : Nat) : ∀ t, (q_feedF S s i t).2 = S.2
  | 0 => rfl
  | t + 1 => by
    have ih := q_feedF_2 S s i t
    simp only [q_feedF]
    split
    · rw [q_i_2, q_i_2, ih]
    · exact ih
theorem q_feedF_w (S : nw_Q) (s i : Nat) {l : Nat} : ∀ t, (∀ t', t' < t → l ≠ 4 * s + t') → (q_feedF S s i t).1 20 l = S.1 20 l
  | 0, _ => rfl
  | t + 1, h => by
    have ih := q_feedF_w S s i t (fun t' ht' => h t' (by omega))
    simp only [q_feedF]
    split
    · rw [q_i_1, if_pos rfl, pk_un (h t (by omega)), q_i_1, if_neg (by decide), ih]
    · exact ih
/-- a line grows by one at most -/
theorem q_feedF_q (S : nw_Q) (s i : Nat) {t' q : Nat} (h : S.1 20 (4 * s + t') = nI q) : ∀ t, ∃ q', q' ≤ q + 1 ∧ (q_feedF S s i t).1 20 (4 * s + t') = nI q'
  | 0 => ⟨q, by omega, h⟩
  | t + 1 => by
    simp only [q_feedF]
    split
    · by_cases ht : t' = t
      · subst ht
        refine ⟨q + 1, Nat.le_refl _, ?_⟩
        rw [q_i_1, if_pos rfl, pk_us, q_feedF_w S s i t' (fun t'' ht'' => by omega), h, nI_add]
      · obtain ⟨q', h1, h2⟩ := q_feedF_q S s i h t
        refine ⟨q', h1, ?_⟩
        rw [q_i_1, if_pos rfl, pk_un (by omega), q_i_1, if_neg (by decide), h2]
    · exact q_feedF_q S s i h t
theorem q_wantF_eq {S S' : nw_Q} (h1 : S'.1 5 = S.1 5) (h2 : S'.2 = S.2) (l i : Nat) : ∀ g, q_wantF S' l i g = q_wantF S l i g
  | 0 => rfl
  | g + 1 => by
    simp only [q_wantF]
    rw [q_wantF_eq h1 h2 l i g, h1, h2]
theorem q_leaves_2 (S : nw_Q) (l : Nat) (id : Int32) : (q_leaves S l id).2 = S.2 := rfl
theorem q_file2_1 {S : nw_Q} {s i f : Nat} (h1 : f ≠ 11) (h2 : f ≠ 17) (h3 : f ≠ 19) (h4 : f ≠ 20) : (q_file2 S s i).1 f = (q_file1 S s i).1 f := by
  unfold q_file2
  split
  · rw [q_leaves_1 h3 h4, q_numF_1 _ _ _ h1 h2]
  · rw [q_numF_1 _ _ _ h1 h2]
theorem q_file2_2 (S : nw_Q) (s i : Nat) : (q_file2 S s i).2 = S.2 := by
  unfold q_file2
  split
  · rw [q_leaves_2, q_numF_2]; rfl
  · rw [q_numF_2]; rfl
section MF
variable {n : Nat} {w : nw_W} {S : nw_Q}
set_option maxRecDepth 20000 in
theorem c_Mo_file {s i N G c : Nat} (hs : s < 4) (hi : i ≤ 40) (hN : N ≤ 4) (h3 : S.1 3 0 = nI N) (hG : G ≤ 6) (hg : S.1 3 3 = nI G) (hc : c ≤ 40) (h8 : S.1 8 i = nI c) (hfr : S.1 25 s = -1 ∨ ∃ t, t < 4 ∧ S.1 25 s = nI t)
    (hq : ∀ l, l < 16 → ∃ q, q ≤ 24 ∧ S.1 20 l = nI q) (h24 : ∀ t, t < N → ∃ q, q < 24 ∧ (q_file2 S s i).1 20 (4 * s + t) = nI q) (hO : nw_Ok n w) : V mMo_file 0 (nw_ent mMo_file [.ref (nw_m n 3), .int (nI s), .int (nI i)]) [] (nw_mod n w S) 0 0 (nw_rw (nw_mod n w (q_file S s i))) := by
  have hm := nw_mf hO
  generalize hQ : nw_rw (nw_mod n w (q_file S s i)) = Q
  have hat : 41 * s + i < 164 := by omega
  -- the end
  have p284 : ∀ v4 v5, V mMo_file 284 [.ref (nw_m n 3), .int (nI s), .int (nI i), .int (nI (41 * s + i)), v4, v5] [] (nw_mod n w (q_file3 S s i)) 0 0 Q := fun v4 v5 => by
    have e8 : (q_file3 S s i).1 8 i = nI c := by
      unfold q_file3
      rw [q_feedF_1 _ _ _ (by decide) (by decide), q_file2_1 (by decide) (by decide) (by decide) (by decide)]
      exact h8
    have e30 : (q_file3 S s i).1 3 0 = nI N := by
      unfold q_file3
      rw [q_feedF_1 _ _ _ (by decide) (by decide), q_file2_1 (by decide) (by decide) (by decide) (by decide)]
      exact h3
    (apply V_s1 [] 15; simp only [nwx_0, nwx_S, nw_s1, nw_pII, nw_pA, nw_tIs, nw_vis, nw_jpx, Option.isSome_some, Option.getD_some, nw_popn, nw_rok, nw_wok, nw_isR, nw_cd, nw_at, nw_put, nw_nl0, nw_nlS, nw_no2s, nw_ft, nw_l01, nw_ak, nw_tsw, nw_flat, Value.category, List.mem_cons, List.not_mem_nil, List.length_cons, List.length_nil, or_false, false_or, or_true, true_or, and_true, true_and, and_false, false_and, if_true, if_false, Option.some.injEq, Prod.mk.injEq, and_assoc, exists_and_left, exists_eq_left, exists_eq_left', exists_const, nw_ks, nw_f4, nw_fvs, nw_some, Nat.reduceAdd, nw_sz_I, nw_kd_I, nw_ln_I, nw_rf_I, nw_L_I, nw_I_I, nw_sz_L, nw_kd_L, nw_ln_L, nw_rf_L, nw_I_L, nw_L_L, nw_ob_I, nw_ob_L, nw_obr_I, nw_obr_L, nI_add, nw_b0, nw_b1, nw_b01, not_false_eq_true, not_true_eq_false, false_implies, true_implies, Classical.not_not, nw_i10, decide_eq_false_iff_not, decide_eq_true_eq, ne_eq, Option.toList_some, Option.toList_none, List.cons_append, List.nil_append, reduceIte, Nat.reduceEqDiff, Nat.reduceLT, Nat.reduceLeDiff, Nat.reduceSub, Nat.reduceMul, reduceCtorEq, ↓nwx_aload_n, ↓nwx_getfield, ↓nwx_iaload, ↓nwx_ifCond, ↓nwx_iload_n, ↓nwx_invokevirtual, ↓nwx_return_, dmMo_file_4, rmMo_file, hm, nw_mod_I, nw_mod_L, nw_mod_sF, nw_mod_sG, q_f_1, q_f_2, q_g_1, q_g_2, nw_mod_ob, nw_mod_ln, nw_mod_rf, pk_mul, e8]; try simp (disch := omega) only [nw_b0, nw_b1, nw_ilt, nw_ile, nw_ieq, nw_icl, nw_iin, nI_add, and_true, true_and, and_false, false_and, not_false_eq_true, not_true_eq_false, false_implies, true_implies, Classical.not_not, ne_eq, reduceIte, Nat.reduceEqDiff, Nat.reduceLT, Nat.reduceLeDiff, Nat.reduceAdd, Nat.reduceSub, Nat.reduceMul, hm, nw_mod_I, nw_mod_L, nw_mod_sF, nw_mod_sG, q_f_1, q_f_2, q_g_1, q_g_2, nw_mod_ob, nw_mod_ln, nw_mod_rf, pk_mul, e8])
    refine ⟨by omega, fun h => ?_, fun h => ?_⟩
    · rw [← hQ]
      refine ⟨rfl, ?_⟩
      unfold q_file
      rw [h8, if_neg (by rw [nI_ltI (by omega) (by omega)]; omega)]
    · refine ⟨by omega, nw_do0 (c_Mo_cancel hs hc hN e30 (fun t ht => ?_) hO) ?_⟩
      · obtain ⟨q, h1, h2⟩ := h24 t ht
        obtain ⟨q', h3, h4⟩ := q_feedF_q (q_file2 S s i) s i h2 (S.1 3 0).toNatClampNeg
        exact ⟨q', by omega, h4⟩
      · rintro r w' ⟨rfl, rfl⟩
        (apply V_s1 [] 3; simp only [nwx_0, nwx_S, nw_s1, nw_pII, nw_pA, nw_tIs, nw_vis, nw_jpx, Option.isSome_some, Option.getD_some, nw_popn, nw_rok, nw_wok, nw_isR, nw_cd, nw_at, nw_put, nw_nl0, nw_nlS, nw_no2s, nw_ft, nw_l01, nw_ak, nw_tsw, nw_flat, Value.category, List.mem_cons, List.not_mem_nil, List.length_cons, List.length_nil, or_false, false_or, or_true, true_or, and_true, true_and, and_false, false_and, if_true, if_false, Option.some.injEq, Prod.mk.injEq, and_assoc, exists_and_left, exists_eq_left, exists_eq_left', exists_const, nw_ks, nw_f4, nw_fvs, nw_some, Nat.reduceAdd, nw_sz_I, nw_kd_I, nw_ln_I, nw_rf_I, nw_L_I, nw_I_I, nw_sz_L, nw_kd_L, nw_ln_L, nw_rf_L, nw_I_L, nw_L_L, nw_ob_I, nw_ob_L, nw_obr_I, nw_obr_L, nI_add, nw_b0, nw_b1, nw_b01, not_false_eq_true, not_true_eq_false, false_implies, true_implies, Classical.not_not, nw_i10, decide_eq_false_iff_not, decide_eq_true_eq, ne_eq, Option.toList_some, Option.toList_none, List.cons_append, List.nil_append, reduceIte, Nat.reduceEqDiff, Nat.reduceLT, Nat.reduceLeDiff, Nat.reduceSub, Nat.reduceMul, reduceCtorEq, ↓nwx_return_, dmMo_file_4, rmMo_file]; try simp (disch := omega) only [nw_b0, nw_b1, nw_ilt, nw_ile, nw_ieq, nw_icl, nw_iin, nI_add, and_true, true_and, and_false, false_and, not_false_eq_true, not_true_eq_false, false_implies, true_implies, Classical.not_not, ne_eq, reduceIte, Nat.reduceEqDiff, Nat.reduceLT, Nat.reduceLeDiff, Nat.reduceAdd, Nat.reduceSub, Nat.reduceMul])
        rw [← hQ]
        refine ⟨rfl, ?_⟩
        unfold q_file
        rw [h8, if_pos (by rw [nI_ltI (by omega) (by omega)]; omega), nI_clamp (by omega)]
  -- feeding
  have loop2 : ∀ d t, t + d = N → ∀ v5, V mMo_file 199 [.ref (nw_m n 3), .int (nI s), .int (nI i), .int (nI (41 * s + i)), .int (nI t), v5] [] (nw_mod n w (q_feedF (q_file2 S s i) s i t)) 0 0 Q := by
    intro d
    induction d with
    | zero =>
      intro t ht v5
      have ht : t = N := by omega
      subst ht
      have e30 : (q_feedF (q_file2 S s i) s i t).1 3 = S.1 3 := by rw [q_feedF_1 _ _ _ (by decide) (by decide), q_file2_1 (by decide) (by decide) (by decide) (by decide)]; rfl
      have e : q_file3 S s i = q_feedF (q_file2 S s i) s i t := by unfold q_file3; rw [h3, nI_clamp (by omega)]
      rw [e] at p284
      (apply V_s1 [199, 278, 284] 23; simp only [nwx_0, nwx_S, nw_s1, nw_pII, nw_pA, nw_tIs, nw_vis, nw_jpx, Option.isSome_some, Option.getD_some, nw_popn, nw_rok, nw_wok, nw_isR, nw_cd, nw_at, nw_put, nw_nl0, nw_nlS, nw_no2s, nw_ft, nw_l01, nw_ak, nw_tsw, nw_flat, Value.category, List.mem_cons, List.not_mem_nil, List.length_cons, List.length_nil, or_false, false_or, or_true, true_or, and_true, true_and, and_false, false_and, if_true, if_false, Option.some.injEq, Prod.mk.injEq, and_assoc, exists_and_left, exists_eq_left, exists_eq_left', exists_const, nw_ks, nw_f4, nw_fvs, nw_some, Nat.reduceAdd, nw_sz_I, nw_kd_I, nw_ln_I, nw_rf_I, nw_L_I, nw_I_I, nw_sz_L, nw_kd_L, nw_ln_L, nw_rf_L, nw_I_L, nw_L_L, nw_ob_I, nw_ob_L, nw_obr_I, nw_obr_L, nI_add, nw_b0, nw_b1, nw_b01, not_false_eq_true, not_true_eq_false, false_implies, true_implies, Classical.not_not, nw_i10, decide_eq_false_iff_not, decide_eq_true_eq, ne_eq, Option.toList_some, Option.toList_none, List.cons_append, List.nil_append, reduceIte, Nat.reduceEqDiff, Nat.reduceLT, Nat.reduceLeDiff, Nat.reduceSub, Nat.reduceMul, reduceCtorEq, ↓nwx_aload_n, ↓nwx_getfield, ↓nwx_iadd, ↓nwx_iaload, ↓nwx_iand, ↓nwx_iconst, ↓nwx_ifCond, ↓nwx_if_icmp, ↓nwx_iload, ↓nwx_iload_n, ↓nwx_imul, ↓nwx_invokevirtual, ↓nwx_ishr, dmMo_file_3, rmMo_file, hm, nw_mod_I, nw_mod_L, nw_mod_sF, nw_mod_sG, q_f_1, q_f_2, q_g_1, q_g_2, nw_mod_ob, nw_mod_ln, nw_mod_rf, pk_mul, e30, h3]; try simp (disch := omega) only [nw_b0, nw_b1, nw_ilt, nw_ile, nw_ieq, nw_icl, nw_iin, nI_add, and_true, true_and, and_false, false_and, not_false_eq_true, not_true_eq_false, false_implies, true_implies, Classical.not_not, ne_eq, reduceIte, Nat.reduceEqDiff, Nat.reduceLT, Nat.reduceLeDiff, Nat.reduceAdd, Nat.reduceSub, Nat.reduceMul, hm, nw_mod_I, nw_mod_L, nw_mod_sF, nw_mod_sG, q_f_1, q_f_2, q_g_1, q_g_2, nw_mod_ob, nw_mod_ln, nw_mod_rf, pk_mul, e30, h3])
      exact br_t (Nat.le_refl _) (p284 _ _)
    | succ d ih =>
      intro t ht v5
      have ih := ih (t + 1) (by omega)
      obtain ⟨q, hq1, hq2⟩ := h24 t (by omega)
      have e30 : (q_feedF (q_file2 S s i) s i t).1 3 = S.1 3 := by rw [q_feedF_1 _ _ _ (by decide) (by decide), q_file2_1 (by decide) (by decide) (by decide) (by decide)]; rfl
      have e16 : (q_feedF (q_file2 S s i) s i t).1 16 = (q_file2 S s i).1 16 := q_feedF_1 _ _ _ (by decide) (by decide) t
      have e20 : (q_feedF (q_file2 S s i) s i t).1 20 (4 * s + t) = nI q := by rw [q_feedF_w _ _ _ _ (fun t' ht' => by omega)]; exact hq2
      have eG : ((q_file2 S s i).1 3 3).toNatClampNeg = G := by rw [q_file2_1 (by decide) (by decide) (by decide) (by decide)]; show (S.1 3 3).toNatClampNeg = G; rw [hg, nI_clamp (by omega)]
      have hst : q_feedF (q_file2 S s i) s i (t + 1) = if bt ((q_file2 S s i).1 16 (41 * s + i)) t = false ∧ q_wantF (q_file2 S s i) (4 * s + t) i G = true
        then q_i (q_i (q_feedF (q_file2 S s i) s i t) 19 (24 * (4 * s + t) + ((q_feedF (q_file2 S s i) s i t).1 20 (4 * s + t)).toNatClampNeg) (nI i)) 20 (4 * s + t) ((q_feedF (q_file2 S s i) s i t).1 20 (4 * s + t) + nI 1)
        else q_feedF (q_file2 S s i) s i t := by rw [← eG]; rfl
      have no : ¬ (bt ((q_file2 S s i).1 16 (41 * s + i)) t = false ∧ q_wantF (q_file2 S s i) (4 * s + t) i G = true) → ∀ v5, V mMo_file 278 [.ref (nw_m n 3), .int (nI s), .int (nI i), .int (nI (41 * s + i)), .int (nI t), v5] [] (nw_mod n w (q_feedF (q_file2 S s i) s i t)) 0 0 Q := fun h v5 => by
        rw [hst, if_neg h] at ih
        (apply V_s1 [199] 4; simp only [nwx_0, nwx_S, nw_s1, nw_pII, nw_pA, nw_tIs, nw_vis, nw_jpx, Option.isSome_some, Option.getD_some, nw_popn, nw_rok, nw_wok, nw_isR, nw_cd, nw_at, nw_put, nw_nl0, nw_nlS, nw_no2s, nw_ft, nw_l01, nw_ak, nw_tsw, nw_flat, Value.category, List.mem_cons, List.not_mem_nil, List.length_cons, List.length_nil, or_false, false_or, or_true, true_or, and_true, true_and, and_false, false_and, if_true, if_false, Option.some.injEq, Prod.mk.injEq, and_assoc, exists_and_left, exists_eq_left, exists_eq_left', exists_const, nw_ks, nw_f4, nw_fvs, nw_some, Nat.reduceAdd, nw_sz_I, nw_kd_I, nw_ln_I, nw_rf_I, nw_L_I, nw_I_I, nw_sz_L, nw_kd_L, nw_ln_L, nw_rf_L, nw_I_L, nw_L_L, nw_ob_I, nw_ob_L, nw_obr_I, nw_obr_L, nI_add, nw_b0, nw_b1, nw_b01, not_false_eq_true, not_true_eq_false, false_implies, true_implies, Classical.not_not, nw_i10, decide_eq_false_iff_not, decide_eq_true_eq, ne_eq, Option.toList_some, Option.toList_none, List.cons_append, List.nil_append, reduceIte, Nat.reduceEqDiff, Nat.reduceLT, Nat.reduceLeDiff, Nat.reduceSub, Nat.reduceMul, reduceCtorEq, ↓nwx_goto, ↓nwx_iinc, dmMo_file_4, rmMo_file]; try simp (disch := omega) only [nw_b0, nw_b1, nw_ilt, nw_ile, nw_ieq, nw_icl, nw_iin, nI_add, and_true, true_and, and_false, false_and, not_false_eq_true, not_true_eq_false, false_implies, true_implies, Classical.not_not, ne_eq, reduceIte, Nat.reduceEqDiff, Nat.reduceLT, Nat.reduceLeDiff, Nat.reduceAdd, Nat.reduceSub, Nat.reduceMul])
        exact ih _
      (apply V_s1 [199, 278, 284] 23; simp only [nwx_0, nwx_S, nw_s1, nw_pII, nw_pA, nw_tIs, nw_vis, nw_jpx, Option.isSome_some, Option.getD_some, nw_popn, nw_rok, nw_wok, nw_isR, nw_cd, nw_at, nw_put, nw_nl0, nw_nlS, nw_no2s, nw_ft, nw_l01, nw_ak, nw_tsw, nw_flat, Value.category, List.mem_cons, List.not_mem_nil, List.length_cons, List.length_nil, or_false, false_or, or_true, true_or, and_true, true_and, and_false, false_and, if_true, if_false, Option.some.injEq, Prod.mk.injEq, and_assoc, exists_and_left, exists_eq_left, exists_eq_left', exists_const, nw_ks, nw_f4, nw_fvs, nw_some, Nat.reduceAdd, nw_sz_I, nw_kd_I, nw_ln_I, nw_rf_I, nw_L_I, nw_I_I, nw_sz_L, nw_kd_L, nw_ln_L, nw_rf_L, nw_I_L, nw_L_L, nw_ob_I, nw_ob_L, nw_obr_I, nw_obr_L, nI_add, nw_b0, nw_b1, nw_b01, not_false_eq_true, not_true_eq_false, false_implies, true_implies, Classical.not_not, nw_i10, decide_eq_false_iff_not, decide_eq_true_eq, ne_eq, Option.toList_some, Option.toList_none, List.cons_append, List.nil_append, reduceIte, Nat.reduceEqDiff, Nat.reduceLT, Nat.reduceLeDiff, Nat.reduceSub, Nat.reduceMul, reduceCtorEq, ↓nwx_aload_n, ↓nwx_getfield, ↓nwx_iadd, ↓nwx_iaload, ↓nwx_iand, ↓nwx_iconst, ↓nwx_ifCond, ↓nwx_if_icmp, ↓nwx_iload, ↓nwx_iload_n, ↓nwx_imul, ↓nwx_invokevirtual, ↓nwx_ishr, dmMo_file_3, rmMo_file, hm, nw_mod_I, nw_mod_L, nw_mod_sF, nw_mod_sG, q_f_1, q_f_2, q_g_1, q_g_2, nw_mod_ob, nw_mod_ln, nw_mod_rf, pk_mul, e30, h3, e16, nw_bit]; try simp (disch := omega) only [nw_b0, nw_b1, nw_ilt, nw_ile, nw_ieq, nw_icl, nw_iin, nI_add, and_true, true_and, and_false, false_and, not_false_eq_true, not_true_eq_false, false_implies, true_implies, Classical.not_not, ne_eq, reduceIte, Nat.reduceEqDiff, Nat.reduceLT, Nat.reduceLeDiff, Nat.reduceAdd, Nat.reduceSub, Nat.reduceMul, hm, nw_mod_I, nw_mod_L, nw_mod_sF, nw_mod_sG, q_f_1, q_f_2, q_g_1, q_g_2, nw_mod_ob, nw_mod_ln, nw_mod_rf, pk_mul, e30, h3, e16, nw_bit])
      refine br_f (by omega) ⟨hat, fun h => no (fun q => h q.1) _, fun h => ?_⟩
      have ew : q_wantF (q_feedF (q_file2 S s i) s i t) (4 * s + t) i G = q_wantF (q_file2 S s i) (4 * s + t) i G := q_wantF_eq (q_feedF_1 _ _ _ (by decide) (by decide) t) (q_feedF_2 _ _ _ t) _ _ G
      refine nw_do0 (c_Mo_wants (show 4 * s + t < 16 by omega) hi hG (by rw [e30]; exact hg) hO) ?_
      rintro r w' ⟨rfl, rfl⟩
      rw [ew]
      (apply V_s1 [278] 35; simp only [nwx_0, nwx_S, nw_s1, nw_pII, nw_pA, nw_tIs, nw_vis, nw_jpx, Option.isSome_some, Option.getD_some, nw_popn, nw_rok, nw_wok, nw_isR, nw_cd, nw_at, nw_put, nw_nl0, nw_nlS, nw_no2s, nw_ft, nw_l01, nw_ak, nw_tsw, nw_flat, Value.category, List.mem_cons, List.not_mem_nil, List.length_cons, List.length_nil, or_false, false_or, or_true, true_or, and_true, true_and, and_false, false_and, if_true, if_false, Option.some.injEq, Prod.mk.injEq, and_assoc, exists_and_left, exists_eq_left, exists_eq_left', exists_const, nw_ks, nw_f4, nw_fvs, nw_some, Nat.reduceAdd, nw_sz_I, nw_kd_I, nw_ln_I, nw_rf_I, nw_L_I, nw_I_I, nw_sz_L, nw_kd_L, nw_ln_L, nw_rf_L, nw_I_L, nw_L_L, nw_ob_I, nw_ob_L, nw_obr_I, nw_obr_L, nI_add, nw_b0, nw_b1, nw_b01, not_false_eq_true, not_true_eq_false, false_implies, true_implies, Classical.not_not, nw_i10, decide_eq_false_iff_not, decide_eq_true_eq, ne_eq, Option.toList_some, Option.toList_none, List.cons_append, List.nil_append, reduceIte, Nat.reduceEqDiff, Nat.reduceLT, Nat.reduceLeDiff, Nat.reduceSub, Nat.reduceMul, reduceCtorEq, ↓nwx_aload_n, ↓nwx_bipush, ↓nwx_dup2, ↓nwx_getfield, ↓nwx_iadd, ↓nwx_iaload, ↓nwx_iastore, ↓nwx_iconst, ↓nwx_ifCond, ↓nwx_iload, ↓nwx_iload_n, ↓nwx_imul, dmMo_file_3, dmMo_file_4, rmMo_file, hm, nw_mod_I, nw_mod_L, nw_mod_sF, nw_mod_sG, q_f_1, q_f_2, q_g_1, q_g_2, nw_mod_ob, nw_mod_ln, nw_mod_rf, pk_mul, e20]; try simp (disch := omega) only [nw_b0, nw_b1, nw_ilt, nw_ile, nw_ieq, nw_icl, nw_iin, nI_add, and_true, true_and, and_false, false_and, not_false_eq_true, not_true_eq_false, false_implies, true_implies, Classical.not_not, ne_eq, reduceIte, Nat.reduceEqDiff, Nat.reduceLT, Nat.reduceLeDiff, Nat.reduceAdd, Nat.reduceSub, Nat.reduceMul, hm, nw_mod_I, nw_mod_L, nw_mod_sF, nw_mod_sG, q_f_1, q_f_2, q_g_1, q_g_2, nw_mod_ob, nw_mod_ln, nw_mod_rf, pk_mul, e20])
      refine ⟨fun h2 => no (fun q => by rw [h2] at q; cases q.2) _, fun h2 => ⟨by omega, by omega, by omega, by omega, ?_⟩⟩
      rw [hst, if_pos ⟨h, eq_true_of_ne_false h2⟩, e20, nI_clamp (by omega), nI_add] at ih
      (apply V_s1 [199] 4; simp only [nwx_0, nwx_S, nw_s1, nw_pII, nw_pA, nw_tIs, nw_vis, nw_jpx, Option.isSome_some, Option.getD_some, nw_popn, nw_rok, nw_wok, nw_isR, nw_cd, nw_at, nw_put, nw_nl0, nw_nlS, nw_no2s, nw_ft, nw_l01, nw_ak, nw_tsw, nw_flat, Value.category, List.mem_cons, List.not_mem_nil, List.length_cons, List.length_nil, or_false, false_or, or_true, true_or, and_true, true_and, and_false, false_and, if_true, if_false, Option.some.injEq, Prod.mk.injEq, and_assoc, exists_and_left, exists_eq_left, exists_eq_left', exists_const, nw_ks, nw_f4, nw_fvs, nw_some, Nat.reduceAdd, nw_sz_I, nw_kd_I, nw_ln_I, nw_rf_I, nw_L_I, nw_I_I, nw_sz_L, nw_kd_L, nw_ln_L, nw_rf_L, nw_I_L, nw_L_L, nw_ob_I, nw_ob_L, nw_obr_I, nw_obr_L, nI_add, nw_b0, nw_b1, nw_b01, not_false_eq_true, not_true_eq_false, false_implies, true_implies, Classical.not_not, nw_i10, decide_eq_false_iff_not, decide_eq_true_eq, ne_eq, Option.toList_some, Option.toList_none, List.cons_append, List.nil_append, reduceIte, Nat.reduceEqDiff, Nat.reduceLT, Nat.reduceLeDiff, Nat.reduceSub, Nat.reduceMul, reduceCtorEq, ↓nwx_goto, ↓nwx_iinc, dmMo_file_4, rmMo_file]; try simp (disch := omega) only [nw_b0, nw_b1, nw_ilt, nw_ile, nw_ieq, nw_icl, nw_iin, nI_add, and_true, true_and, and_false, false_and, not_false_eq_true, not_true_eq_false, false_implies, true_implies, Classical.not_not, ne_eq, reduceIte, Nat.reduceEqDiff, Nat.reduceLT, Nat.reduceLeDiff, Nat.reduceAdd, Nat.reduceSub, Nat.reduceMul])
      exact ih _
  -- the sender's line
  have p172 : ∀ v4 v5, V mMo_file 172 [.ref (nw_m n 3), .int (nI s), .int (nI i), .int (nI (41 * s + i)), v4, v5] [] (nw_mod n w (q_numF (q_file1 S s i) s i 6)) 0 0 Q := fun v4 v5 => by
    have e25 : (q_numF (q_file1 S s i) s i 6).1 25 = S.1 25 := by rw [q_numF_1 _ _ _ (by decide) (by decide)]; rfl
    have e20 : (q_numF (q_file1 S s i) s i 6).1 20 = S.1 20 := by rw [q_numF_1 _ _ _ (by decide) (by decide)]; rfl
    rcases hfr with hfr | ⟨t, ht, hfr⟩
    · have e2 : q_file2 S s i = q_numF (q_file1 S s i) s i 6 := by
        unfold q_file2
        rw [hfr, if_neg (by decide)]
      have hneg : ((-1 : Int32) < nI 0) = True := eq_true (by decide)
      rw [← e2]
      rw [← e2] at e25
      (apply V_s1 [199] 20; simp only [nwx_0, nwx_S, nw_s1, nw_pII, nw_pA, nw_tIs, nw_vis, nw_jpx, Option.isSome_some, Option.getD_some, nw_popn, nw_rok, nw_wok, nw_isR, nw_cd, nw_at, nw_put, nw_nl0, nw_nlS, nw_no2s, nw_ft, nw_l01, nw_ak, nw_tsw, nw_flat, Value.category, List.mem_cons, List.not_mem_nil, List.length_cons, List.length_nil, or_false, false_or, or_true, true_or, and_true, true_and, and_false, false_and, if_true, if_false, Option.some.injEq, Prod.mk.injEq, and_assoc, exists_and_left, exists_eq_left, exists_eq_left', exists_const, nw_ks, nw_f4, nw_fvs, nw_some, Nat.reduceAdd, nw_sz_I, nw_kd_I, nw_ln_I, nw_rf_I, nw_L_I, nw_I_I, nw_sz_L, nw_kd_L, nw_ln_L, nw_rf_L, nw_I_L, nw_L_L, nw_ob_I, nw_ob_L, nw_obr_I, nw_obr_L, nI_add, nw_b0, nw_b1, nw_b01, not_false_eq_true, not_true_eq_false, false_implies, true_implies, Classical.not_not, nw_i10, decide_eq_false_iff_not, decide_eq_true_eq, ne_eq, Option.toList_some, Option.toList_none, List.cons_append, List.nil_append, reduceIte, Nat.reduceEqDiff, Nat.reduceLT, Nat.reduceLeDiff, Nat.reduceSub, Nat.reduceMul, reduceCtorEq, ↓nwx_aload_n, ↓nwx_getfield, ↓nwx_iadd, ↓nwx_iaload, ↓nwx_iconst, ↓nwx_ifCond, ↓nwx_iload_n, ↓nwx_imul, ↓nwx_invokevirtual, ↓nwx_istore, dmMo_file_2, dmMo_file_3, rmMo_file, hm, nw_mod_I, nw_mod_L, nw_mod_sF, nw_mod_sG, q_f_1, q_f_2, q_g_1, q_g_2, nw_mod_ob, nw_mod_ln, nw_mod_rf, pk_mul, e25, hfr, hneg]; try simp (disch := omega) only [nw_b0, nw_b1, nw_ilt, nw_ile, nw_ieq, nw_icl, nw_iin, nI_add, and_true, true_and, and_false, false_and, not_false_eq_true, not_true_eq_false, false_implies, true_implies, Classical.not_not, ne_eq, reduceIte, Nat.reduceEqDiff, Nat.reduceLT, Nat.reduceLeDiff, Nat.reduceAdd, Nat.reduceSub, Nat.reduceMul, hm, nw_mod_I, nw_mod_L, nw_mod_sF, nw_mod_sG, q_f_1, q_f_2, q_g_1, q_g_2, nw_mod_ob, nw_mod_ln, nw_mod_rf, pk_mul, e25, hfr, hneg])
      exact ⟨hs, loop2 N 0 (by omega) _⟩
    · have e2 : q_file2 S s i = q_leaves (q_numF (q_file1 S s i) s i 6) (4 * t + s) (nI i) := by
        unfold q_file2
        rw [hfr, if_pos (nI_le (by omega) (by omega)), nI_clamp (by omega)]
      (apply V_s1 [199] 20; simp only [nwx_0, nwx_S, nw_s1, nw_pII, nw_pA, nw_tIs, nw_vis, nw_jpx, Option.isSome_some, Option.getD_some, nw_popn, nw_rok, nw_wok, nw_isR, nw_cd, nw_at, nw_put, nw_nl0, nw_nlS, nw_no2s, nw_ft, nw_l01, nw_ak, nw_tsw, nw_flat, Value.category, List.mem_cons, List.not_mem_nil, List.length_cons, List.length_nil, or_false, false_or, or_true, true_or, and_true, true_and, and_false, false_and, if_true, if_false, Option.some.injEq, Prod.mk.injEq, and_assoc, exists_and_left, exists_eq_left, exists_eq_left', exists_const, nw_ks, nw_f4, nw_fvs, nw_some, Nat.reduceAdd, nw_sz_I, nw_kd_I, nw_ln_I, nw_rf_I, nw_L_I, nw_I_I, nw_sz_L, nw_kd_L, nw_ln_L, nw_rf_L, nw_I_L, nw_L_L, nw_ob_I, nw_ob_L, nw_obr_I, nw_obr_L, nI_add, nw_b0, nw_b1, nw_b01, not_false_eq_true, not_true_eq_false, false_implies, true_implies, Classical.not_not, nw_i10, decide_eq_false_iff_not, decide_eq_true_eq, ne_eq, Option.toList_some, Option.toList_none, List.cons_append, List.nil_append, reduceIte, Nat.reduceEqDiff, Nat.reduceLT, Nat.reduceLeDiff, Nat.reduceSub, Nat.reduceMul, reduceCtorEq, ↓nwx_aload_n, ↓nwx_getfield, ↓nwx_iadd, ↓nwx_iaload, ↓nwx_iconst, ↓nwx_ifCond, ↓nwx_iload_n, ↓nwx_imul, ↓nwx_invokevirtual, ↓nwx_istore, dmMo_file_2, dmMo_file_3, rmMo_file, hm, nw_mod_I, nw_mod_L, nw_mod_sF, nw_mod_sG, q_f_1, q_f_2, q_g_1, q_g_2, nw_mod_ob, nw_mod_ln, nw_mod_rf, pk_mul, e25, hfr]; try simp (disch := omega) only [nw_b0, nw_b1, nw_ilt, nw_ile, nw_ieq, nw_icl, nw_iin, nI_add, and_true, true_and, and_false, false_and, not_false_eq_true, not_true_eq_false, false_implies, true_implies, Classical.not_not, ne_eq, reduceIte, Nat.reduceEqDiff, Nat.reduceLT, Nat.reduceLeDiff, Nat.reduceAdd, Nat.reduceSub, Nat.reduceMul, hm, nw_mod_I, nw_mod_L, nw_mod_sF, nw_mod_sG, q_f_1, q_f_2, q_g_1, q_g_2, nw_mod_ob, nw_mod_ln, nw_mod_rf, pk_mul, e25, hfr])
      refine ⟨hs, br_f (by omega) ⟨hs, ?_⟩⟩
      obtain ⟨q, hq1, hq2⟩ := hq (4 * t + s) (by omega)
      refine nw_do0 (c_Mo_leaves (nI i) (show 4 * t + s < 16 by omega) hq1 (by rw [e20]; exact hq2) hO) ?_
      rintro r w' ⟨rfl, rfl⟩
      rw [← e2]
      (apply V_s1 [199] 4; simp only [nwx_0, nwx_S, nw_s1, nw_pII, nw_pA, nw_tIs, nw_vis, nw_jpx, Option.isSome_some, Option.getD_some, nw_popn, nw_rok, nw_wok, nw_isR, nw_cd, nw_at, nw_put, nw_nl0, nw_nlS, nw_no2s, nw_ft, nw_l01, nw_ak, nw_tsw, nw_flat, Value.category, List.mem_cons, List.not_mem_nil, List.length_cons, List.length_nil, or_false, false_or, or_true, true_or, and_true, true_and, and_false, false_and, if_true, if_false, Option.some.injEq, Prod.mk.injEq, and_assoc, exists_and_left, exists_eq_left, exists_eq_left', exists_const, nw_ks, nw_f4, nw_fvs, nw_some, Nat.reduceAdd, nw_sz_I, nw_kd_I, nw_ln_I, nw_rf_I, nw_L_I, nw_I_I, nw_sz_L, nw_kd_L, nw_ln_L, nw_rf_L, nw_I_L, nw_L_L, nw_ob_I, nw_ob_L, nw_obr_I, nw_obr_L, nI_add, nw_b0, nw_b1, nw_b01, not_false_eq_true, not_true_eq_false, false_implies, true_implies, Classical.not_not, nw_i10, decide_eq_false_iff_not, decide_eq_true_eq, ne_eq, Option.toList_some, Option.toList_none, List.cons_append, List.nil_append, reduceIte, Nat.reduceEqDiff, Nat.reduceLT, Nat.reduceLeDiff, Nat.reduceSub, Nat.reduceMul, reduceCtorEq, ↓nwx_iconst, ↓nwx_istore, dmMo_file_3, rmMo_file]; try simp (disch := omega) only [nw_b0, nw_b1, nw_ilt, nw_ile, nw_ieq, nw_icl, nw_iin, nI_add, and_true, true_and, and_false, false_and, not_false_eq_true, not_true_eq_false, false_implies, true_implies, Classical.not_not, ne_eq, reduceIte, Nat.reduceEqDiff, Nat.reduceLT, Nat.reduceLeDiff, Nat.reduceAdd, Nat.reduceSub, Nat.reduceMul])
      exact loop2 N 0 (by omega) _
  -- numbers
  have loop : ∀ d g, g + d = 6 → ∀ v5, V mMo_file 69 [.ref (nw_m n 3), .int (nI s), .int (nI i), .int (nI (41 * s + i)), .int (nI g), v5] [] (nw_mod n w (q_numF (q_file1 S s i) s i g)) 0 0 Q := by
    intro d
    induction d with
    | zero =>
      intro g hgd v5
      have hgd : g = 6 := by omega
      subst hgd
      (apply V_s1 [69, 106, 172] 20; simp only [nwx_0, nwx_S, nw_s1, nw_pII, nw_pA, nw_tIs, nw_vis, nw_jpx, Option.isSome_some, Option.getD_some, nw_popn, nw_rok, nw_wok, nw_isR, nw_cd, nw_at, nw_put, nw_nl0, nw_nlS, nw_no2s, nw_ft, nw_l01, nw_ak, nw_tsw, nw_flat, Value.category, List.mem_cons, List.not_mem_nil, List.length_cons, List.length_nil, or_false, false_or, or_true, true_or, and_true, true_and, and_false, false_and, if_true, if_false, Option.some.injEq, Prod.mk.injEq, and_assoc, exists_and_left, exists_eq_left, exists_eq_left', exists_const, nw_ks, nw_f4, nw_fvs, nw_some, Nat.reduceAdd, nw_sz_I, nw_kd_I, nw_ln_I, nw_rf_I, nw_L_I, nw_I_I, nw_sz_L, nw_kd_L, nw_ln_L, nw_rf_L, nw_I_L, nw_L_L, nw_ob_I, nw_ob_L, nw_obr_I, nw_obr_L, nI_add, nw_b0, nw_b1, nw_b01, not_false_eq_true, not_true_eq_false, false_implies, true_implies, Classical.not_not, nw_i10, decide_eq_false_iff_not, decide_eq_true_eq, ne_eq, Option.toList_some, Option.toList_none, List.cons_append, List.nil_append, reduceIte, Nat.reduceEqDiff, Nat.reduceLT, Nat.reduceLeDiff, Nat.reduceSub, Nat.reduceMul, reduceCtorEq, ↓nwx_aload_n, ↓nwx_bipush, ↓nwx_getfield, ↓nwx_iaload, ↓nwx_iand, ↓nwx_iconst, ↓nwx_if_icmp, ↓nwx_iload, ↓nwx_iload_n, ↓nwx_invokevirtual, ↓nwx_ishr, dmMo_file_1, rmMo_file, hm, nw_mod_I, nw_mod_L, nw_mod_sF, nw_mod_sG, q_f_1, q_f_2, q_g_1, q_g_2, nw_mod_ob, nw_mod_ln, nw_mod_rf, pk_mul]; try simp (disch := omega) only [nw_b0, nw_b1, nw_ilt, nw_ile, nw_ieq, nw_icl, nw_iin, nI_add, and_true, true_and, and_false, false_and, not_false_eq_true, not_true_eq_false, false_implies, true_implies, Classical.not_not, ne_eq, reduceIte, Nat.reduceEqDiff, Nat.reduceLT, Nat.reduceLeDiff, Nat.reduceAdd, Nat.reduceSub, Nat.reduceMul, hm, nw_mod_I, nw_mod_L, nw_mod_sF, nw_mod_sG, q_f_1, q_f_2, q_g_1, q_g_2, nw_mod_ob, nw_mod_ln, nw_mod_rf, pk_mul])
      exact p172 _ _
    | succ d ih =>
      intro g hgd v5
      have ih := ih (g + 1) (by omega)
      generalize hT : q_file1 S s i = T at ih
      have e5 : (q_numF T s i g).1 5 = T.1 5 := q_numF_1 _ _ _ (by decide) (by decide) g
      have e10 : q_car2 (q_numF T s i g) s (nI g) = q_carries T s g := by
        unfold q_car2 q_carries
        rw [decide_eq_true ⟨nI_le (by omega) (by omega), nI_lt (by omega) (by omega)⟩, Bool.true_and, nI_clamp (by omega), q_numF_1 _ _ _ (by decide) (by decide)]
      have hst : q_numF T s i (g + 1) = if bt (T.1 5 i) g = true ∧ q_carries T s g = true
          then q_i (q_i (q_numF T s i g) 11 (6 * s + g) ((q_numF T s i g).1 11 (6 * s + g) + nI 1)) 17 (6 * (41 * s + i) + g) ((q_numF T s i g).1 11 (6 * s + g) + nI 1)
          else q_i (q_i (q_numF T s i g) 11 (6 * s + g) ((q_numF T s i g).1 11 (6 * s + g) + nI 0)) 17 (6 * (41 * s + i) + g) (nI 0) := rfl
      have p106 : ∀ b, (b = true ↔ bt (T.1 5 i) g = true ∧ q_carries T s g = true) → ∀ v5, V mMo_file 106 [.ref (nw_m n 3), .int (nI s), .int (nI i), .int (nI (41 * s + i)), .int (nI g), v5] [.int (nw_b b)] (nw_mod n w (q_numF T s i g)) 0 0 Q := fun b hb v5 => by
        (apply V_s1 [69] 41; simp only [nwx_0, nwx_S, nw_s1, nw_pII, nw_pA, nw_tIs, nw_vis, nw_jpx, Option.isSome_some, Option.getD_some, nw_popn, nw_rok, nw_wok, nw_isR, nw_cd, nw_at, nw_put, nw_nl0, nw_nlS, nw_no2s, nw_ft, nw_l01, nw_ak, nw_tsw, nw_flat, Value.category, List.mem_cons, List.not_mem_nil, List.length_cons, List.length_nil, or_false, false_or, or_true, true_or, and_true, true_and, and_false, false_and, if_true, if_false, Option.some.injEq, Prod.mk.injEq, and_assoc, exists_and_left, exists_eq_left, exists_eq_left', exists_const, nw_ks, nw_f4, nw_fvs, nw_some, Nat.reduceAdd, nw_sz_I, nw_kd_I, nw_ln_I, nw_rf_I, nw_L_I, nw_I_I, nw_sz_L, nw_kd_L, nw_ln_L, nw_rf_L, nw_I_L, nw_L_L, nw_ob_I, nw_ob_L, nw_obr_I, nw_obr_L, nI_add, nw_b0, nw_b1, nw_b01, not_false_eq_true, not_true_eq_false, false_implies, true_implies, Classical.not_not, nw_i10, decide_eq_false_iff_not, decide_eq_true_eq, ne_eq, Option.toList_some, Option.toList_none, List.cons_append, List.nil_append, reduceIte, Nat.reduceEqDiff, Nat.reduceLT, Nat.reduceLeDiff, Nat.reduceSub, Nat.reduceMul, reduceCtorEq, ↓nwx_aload_n, ↓nwx_bipush, ↓nwx_dup2, ↓nwx_getfield, ↓nwx_goto, ↓nwx_iadd, ↓nwx_iaload, ↓nwx_iastore, ↓nwx_iconst, ↓nwx_ifCond, ↓nwx_iinc, ↓nwx_iload, ↓nwx_iload_n, ↓nwx_imul, ↓nwx_istore, dmMo_file_1, dmMo_file_2, rmMo_file, hm, nw_mod_I, nw_mod_L, nw_mod_sF, nw_mod_sG, q_f_1, q_f_2, q_g_1, q_g_2, nw_mod_ob, nw_mod_ln, nw_mod_rf, pk_mul, pk_us]; try simp (disch := omega) only [nw_b0, nw_b1, nw_ilt, nw_ile, nw_ieq, nw_icl, nw_iin, nI_add, and_true, true_and, and_false, false_and, not_false_eq_true, not_true_eq_false, false_implies, true_implies, Classical.not_not, ne_eq, reduceIte, Nat.reduceEqDiff, Nat.reduceLT, Nat.reduceLeDiff, Nat.reduceAdd, Nat.reduceSub, Nat.reduceMul, hm, nw_mod_I, nw_mod_L, nw_mod_sF, nw_mod_sG, q_f_1, q_f_2, q_g_1, q_g_2, nw_mod_ob, nw_mod_ln, nw_mod_rf, pk_mul, pk_us])
        refine ⟨by omega, fun h => ⟨by omega, fun _ => ⟨by omega, ?_⟩, fun h' => absurd h h'⟩, fun h => ⟨by omega, fun h' => absurd h' h, fun _ => ⟨by omega, by omega, ?_⟩⟩⟩
        · rw [hst, if_neg (fun q => by rw [hb.mpr q] at h; cases h)] at ih
          exact ih _
        · rw [hst, if_pos (hb.mp (eq_true_of_ne_false h))] at ih
          exact ih _
      (apply V_s1 [69, 106, 172] 20; simp only [nwx_0, nwx_S, nw_s1, nw_pII, nw_pA, nw_tIs, nw_vis, nw_jpx, Option.isSome_some, Option.getD_some, nw_popn, nw_rok, nw_wok, nw_isR, nw_cd, nw_at, nw_put, nw_nl0, nw_nlS, nw_no2s, nw_ft, nw_l01, nw_ak, nw_tsw, nw_flat, Value.category, List.mem_cons, List.not_mem_nil, List.length_cons, List.length_nil, or_false, false_or, or_true, true_or, and_true, true_and, and_false, false_and, if_true, if_false, Option.some.injEq, Prod.mk.injEq, and_assoc, exists_and_left, exists_eq_left, exists_eq_left', exists_const, nw_ks, nw_f4, nw_fvs, nw_some, Nat.reduceAdd, nw_sz_I, nw_kd_I, nw_ln_I, nw_rf_I, nw_L_I, nw_I_I, nw_sz_L, nw_kd_L, nw_ln_L, nw_rf_L, nw_I_L, nw_L_L, nw_ob_I, nw_ob_L, nw_obr_I, nw_obr_L, nI_add, nw_b0, nw_b1, nw_b01, not_false_eq_true, not_true_eq_false, false_implies, true_implies, Classical.not_not, nw_i10, decide_eq_false_iff_not, decide_eq_true_eq, ne_eq, Option.toList_some, Option.toList_none, List.cons_append, List.nil_append, reduceIte, Nat.reduceEqDiff, Nat.reduceLT, Nat.reduceLeDiff, Nat.reduceSub, Nat.reduceMul, reduceCtorEq, ↓nwx_aload_n, ↓nwx_bipush, ↓nwx_getfield, ↓nwx_iaload, ↓nwx_iand, ↓nwx_iconst, ↓nwx_if_icmp, ↓nwx_iload, ↓nwx_iload_n, ↓nwx_invokevirtual, ↓nwx_ishr, dmMo_file_1, rmMo_file, hm, nw_mod_I, nw_mod_L, nw_mod_sF, nw_mod_sG, q_f_1, q_f_2, q_g_1, q_g_2, nw_mod_ob, nw_mod_ln, nw_mod_rf, pk_mul, e5, nw_bit]; try simp (disch := omega) only [nw_b0, nw_b1, nw_ilt, nw_ile, nw_ieq, nw_icl, nw_iin, nI_add, and_true, true_and, and_false, false_and, not_false_eq_true, not_true_eq_false, false_implies, true_implies, Classical.not_not, ne_eq, reduceIte, Nat.reduceEqDiff, Nat.reduceLT, Nat.reduceLeDiff, Nat.reduceAdd, Nat.reduceSub, Nat.reduceMul, hm, nw_mod_I, nw_mod_L, nw_mod_sF, nw_mod_sG, q_f_1, q_f_2, q_g_1, q_g_2, nw_mod_ob, nw_mod_ln, nw_mod_rf, pk_mul, e5, nw_bit])
      refine br_f (by omega) ⟨by omega, fun h => p106 false ⟨fun q => (by cases q), fun q => absurd q.1 h⟩ _, fun h => nw_do0 (c_Mo_carries (nI g) hs hO) ?_⟩
      rintro r w' ⟨rfl, rfl⟩
      rw [e10]
      (apply V_s1 [106] 6; simp only [nwx_0, nwx_S, nw_s1, nw_pII, nw_pA, nw_tIs, nw_vis, nw_jpx, Option.isSome_some, Option.getD_some, nw_popn, nw_rok, nw_wok, nw_isR, nw_cd, nw_at, nw_put, nw_nl0, nw_nlS, nw_no2s, nw_ft, nw_l01, nw_ak, nw_tsw, nw_flat, Value.category, List.mem_cons, List.not_mem_nil, List.length_cons, List.length_nil, or_false, false_or, or_true, true_or, and_true, true_and, and_false, false_and, if_true, if_false, Option.some.injEq, Prod.mk.injEq, and_assoc, exists_and_left, exists_eq_left, exists_eq_left', exists_const, nw_ks, nw_f4, nw_fvs, nw_some, Nat.reduceAdd, nw_sz_I, nw_kd_I, nw_ln_I, nw_rf_I, nw_L_I, nw_I_I, nw_sz_L, nw_kd_L, nw_ln_L, nw_rf_L, nw_I_L, nw_L_L, nw_ob_I, nw_ob_L, nw_obr_I, nw_obr_L, nI_add, nw_b0, nw_b1, nw_b01, not_false_eq_true, not_true_eq_false, false_implies, true_implies, Classical.not_not, nw_i10, decide_eq_false_iff_not, decide_eq_true_eq, ne_eq, Option.toList_some, Option.toList_none, List.cons_append, List.nil_append, reduceIte, Nat.reduceEqDiff, Nat.reduceLT, Nat.reduceLeDiff, Nat.reduceSub, Nat.reduceMul, reduceCtorEq, ↓nwx_goto, ↓nwx_iconst, ↓nwx_ifCond, dmMo_file_1, rmMo_file]; try simp (disch := omega) only [nw_b0, nw_b1, nw_ilt, nw_ile, nw_ieq, nw_icl, nw_iin, nI_add, and_true, true_and, and_false, false_and, not_false_eq_true, not_true_eq_false, false_implies, true_implies, Classical.not_not, ne_eq, reduceIte, Nat.reduceEqDiff, Nat.reduceLT, Nat.reduceLeDiff, Nat.reduceAdd, Nat.reduceSub, Nat.reduceMul])
      exact ⟨fun h2 => p106 false ⟨fun q => (by cases q), fun q => (by rw [h2] at q; cases q.2)⟩ _, fun h2 => p106 true ⟨fun _ => ⟨h, eq_true_of_ne_false h2⟩, fun _ => rfl⟩ _⟩
  have e1 : q_later (q_f (q_f S 21 (upd (S.1 21) s (nI 0))) 12 (upd (S.1 12) (41 * s + i) (nI 1))) i = q_later S i := rfl
  rw [emMo_file]
  (apply V_s1 [69] 24; simp only [nwx_0, nwx_S, nw_s1, nw_pII, nw_pA, nw_tIs, nw_vis, nw_jpx, Option.isSome_some, Option.getD_some, nw_popn, nw_rok, nw_wok, nw_isR, nw_cd, nw_at, nw_put, nw_nl0, nw_nlS, nw_no2s, nw_ft, nw_l01, nw_ak, nw_tsw, nw_flat, Value.category, List.mem_cons, List.not_mem_nil, List.length_cons, List.length_nil, or_false, false_or, or_true, true_or, and_true, true_and, and_false, false_and, if_true, if_false, Option.some.injEq, Prod.mk.injEq, and_assoc, exists_and_left, exists_eq_left, exists_eq_left', exists_const, nw_ks, nw_f4, nw_fvs, nw_some, Nat.reduceAdd, nw_sz_I, nw_kd_I, nw_ln_I, nw_rf_I, nw_L_I, nw_I_I, nw_sz_L, nw_kd_L, nw_ln_L, nw_rf_L, nw_I_L, nw_L_L, nw_ob_I, nw_ob_L, nw_obr_I, nw_obr_L, nI_add, nw_b0, nw_b1, nw_b01, not_false_eq_true, not_true_eq_false, false_implies, true_implies, Classical.not_not, nw_i10, decide_eq_false_iff_not, decide_eq_true_eq, ne_eq, Option.toList_some, Option.toList_none, List.cons_append, List.nil_append, reduceIte, Nat.reduceEqDiff, Nat.reduceLT, Nat.reduceLeDiff, Nat.reduceSub, Nat.reduceMul, reduceCtorEq, ↓nwx_aload_n, ↓nwx_bipush, ↓nwx_getfield, ↓nwx_iadd, ↓nwx_iastore, ↓nwx_iconst, ↓nwx_iload_n, ↓nwx_imul, ↓nwx_invokevirtual, ↓nwx_istore_n, dmMo_file_0, rmMo_file, hm, nw_mod_I, nw_mod_L, nw_mod_sF, nw_mod_sG, q_f_1, q_f_2, q_g_1, q_g_2, nw_mod_ob, nw_mod_ln, nw_mod_rf, pk_mul]; try simp (disch := omega) only [nw_b0, nw_b1, nw_ilt, nw_ile, nw_ieq, nw_icl, nw_iin, nI_add, and_true, true_and, and_false, false_and, not_false_eq_true, not_true_eq_false, false_implies, true_implies, Classical.not_not, ne_eq, reduceIte, Nat.reduceEqDiff, Nat.reduceLT, Nat.reduceLeDiff, Nat.reduceAdd, Nat.reduceSub, Nat.reduceMul, hm, nw_mod_I, nw_mod_L, nw_mod_sF, nw_mod_sG, q_f_1, q_f_2, q_g_1, q_g_2, nw_mod_ob, nw_mod_ln, nw_mod_rf, pk_mul])
  refine ⟨hs, hat, nw_do0 (c_Mo_later hi hO) ?_⟩
  rintro r w' ⟨rfl, rfl⟩
  rw [e1]
  (apply V_s1 [69] 27; simp only [nwx_0, nwx_S, nw_s1, nw_pII, nw_pA, nw_tIs, nw_vis, nw_jpx, Option.isSome_some, Option.getD_some, nw_popn, nw_rok, nw_wok, nw_isR, nw_cd, nw_at, nw_put, nw_nl0, nw_nlS, nw_no2s, nw_ft, nw_l01, nw_ak, nw_tsw, nw_flat, Value.category, List.mem_cons, List.not_mem_nil, List.length_cons, List.length_nil, or_false, false_or, or_true, true_or, and_true, true_and, and_false, false_and, if_true, if_false, Option.some.injEq, Prod.mk.injEq, and_assoc, exists_and_left, exists_eq_left, exists_eq_left', exists_const, nw_ks, nw_f4, nw_fvs, nw_some, Nat.reduceAdd, nw_sz_I, nw_kd_I, nw_ln_I, nw_rf_I, nw_L_I, nw_I_I, nw_sz_L, nw_kd_L, nw_ln_L, nw_rf_L, nw_I_L, nw_L_L, nw_ob_I, nw_ob_L, nw_obr_I, nw_obr_L, nI_add, nw_b0, nw_b1, nw_b01, not_false_eq_true, not_true_eq_false, false_implies, true_implies, Classical.not_not, nw_i10, decide_eq_false_iff_not, decide_eq_true_eq, ne_eq, Option.toList_some, Option.toList_none, List.cons_append, List.nil_append, reduceIte, Nat.reduceEqDiff, Nat.reduceLT, Nat.reduceLeDiff, Nat.reduceSub, Nat.reduceMul, reduceCtorEq, ↓nwx_aload_n, ↓nwx_getfield, ↓nwx_iaload, ↓nwx_iastore, ↓nwx_iconst, ↓nwx_iload_n, ↓nwx_istore, dmMo_file_0, dmMo_file_1, rmMo_file, hm, nw_mod_I, nw_mod_L, nw_mod_sF, nw_mod_sG, q_f_1, q_f_2, q_g_1, q_g_2, nw_mod_ob, nw_mod_ln, nw_mod_rf, pk_mul]; try simp (disch := omega) only [nw_b0, nw_b1, nw_ilt, nw_ile, nw_ieq, nw_icl, nw_iin, nI_add, and_true, true_and, and_false, false_and, not_false_eq_true, not_true_eq_false, false_implies, true_implies, Classical.not_not, ne_eq, reduceIte, Nat.reduceEqDiff, Nat.reduceLT, Nat.reduceLeDiff, Nat.reduceAdd, Nat.reduceSub, Nat.reduceMul, hm, nw_mod_I, nw_mod_L, nw_mod_sF, nw_mod_sG, q_f_1, q_f_2, q_g_1, q_g_2, nw_mod_ob, nw_mod_ln, nw_mod_rf, pk_mul])
  exact ⟨hat, hat, hs, hat, hs, hat, loop 6 0 rfl _⟩
end MF
