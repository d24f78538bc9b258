/-! NewsFlood: crash and expire -/
section NA
variable {n B : Nat} {w : nw_W} {S : nw_Q}
set_option maxRecDepth 20000 in
theorem p_Nf_crash (x : Int32) (hJ : nw_J n w S B) : V mNf_crash 0 (nw_ent mNf_crash [.ref 1, .int x]) [] w 0 0 (nw_rj n B w (q_crash S n x)) := by
  have hO := hJ.1
  have hn4 := hO.2.1
  have hc := nw_cf hO
  obtain ⟨p, hp⟩ : ∃ p, p = q_crash S n x := ⟨_, rfl⟩
  rw [← hp, emNf_crash]
  unfold q_crash at hp
  (apply V_s1 [] 5; simp only [nwx_0, nwx_S, nw_s1, nw_pII, nw_pA, nw_tIs, nw_vis, nw_jpx, Option.isSome_some, Option.getD_some, nw_popn, nw_rok, nw_wok, nw_isR, nw_cd, nw_at, nw_put, nw_nl0, nw_nlS, nw_no2s, nw_ft, nw_l01, nw_ak, nw_tsw, nw_flat, Value.category, List.mem_cons, List.not_mem_nil, List.length_cons, List.length_nil, or_false, false_or, or_true, true_or, and_true, true_and, and_false, false_and, if_true, if_false, Option.some.injEq, Prod.mk.injEq, and_assoc, exists_and_left, exists_eq_left, exists_eq_left', exists_const, nw_ks, nw_f4, nw_fvs, nw_some, Nat.reduceAdd, nw_sz_I, nw_kd_I, nw_ln_I, nw_rf_I, nw_L_I, nw_I_I, nw_sz_L, nw_kd_L, nw_ln_L, nw_rf_L, nw_I_L, nw_L_L, nw_ob_I, nw_ob_L, nw_obr_I, nw_obr_L, nI_add, nw_b0, nw_b1, nw_b01, not_false_eq_true, not_true_eq_false, false_implies, true_implies, Classical.not_not, nw_i10, decide_eq_false_iff_not, decide_eq_true_eq, ne_eq, Option.toList_some, Option.toList_none, List.cons_append, List.nil_append, reduceIte, Nat.reduceEqDiff, Nat.reduceLT, Nat.reduceLeDiff, Nat.reduceSub, Nat.reduceMul, reduceCtorEq, ↓nwx_aload_n, ↓nwx_iload_n, ↓nwx_invokevirtual, dmNf_crash_0, rmNf_crash, hc]; try simp (disch := omega) only [nw_b0, nw_b1, nw_ilt, nw_ile, nw_ieq, nw_icl, nw_iin, nI_add, and_true, true_and, and_false, false_and, not_false_eq_true, not_true_eq_false, false_implies, true_implies, Classical.not_not, ne_eq, reduceIte, Nat.reduceEqDiff, Nat.reduceLT, Nat.reduceLeDiff, Nat.reduceAdd, Nat.reduceSub, Nat.reduceMul, hc])
  refine nw_do0 (c_Nf_isServer x hO) ?_
  rintro r w' ⟨rfl, rfl⟩
  rw [← q_srv_k (j_g3 hJ)]
  by_cases hx : q_srv S x = true
  case neg =>
    rw [eq_false_of_ne_true hx]
    (apply V_s1 [10] 5; simp only [nwx_0, nwx_S, nw_s1, nw_pII, nw_pA, nw_tIs, nw_vis, nw_jpx, Option.isSome_some, Option.getD_some, nw_popn, nw_rok, nw_wok, nw_isR, nw_cd, nw_at, nw_put, nw_nl0, nw_nlS, nw_no2s, nw_ft, nw_l01, nw_ak, nw_tsw, nw_flat, Value.category, List.mem_cons, List.not_mem_nil, List.length_cons, List.length_nil, or_false, false_or, or_true, true_or, and_true, true_and, and_false, false_and, if_true, if_false, Option.some.injEq, Prod.mk.injEq, and_assoc, exists_and_left, exists_eq_left, exists_eq_left', exists_const, nw_ks, nw_f4, nw_fvs, nw_some, Nat.reduceAdd, nw_sz_I, nw_kd_I, nw_ln_I, nw_rf_I, nw_L_I, nw_I_I, nw_sz_L, nw_kd_L, nw_ln_L, nw_rf_L, nw_I_L, nw_L_L, nw_ob_I, nw_ob_L, nw_obr_I, nw_obr_L, nI_add, nw_b0, nw_b1, nw_b01, not_false_eq_true, not_true_eq_false, false_implies, true_implies, Classical.not_not, nw_i10, decide_eq_false_iff_not, decide_eq_true_eq, ne_eq, Option.toList_some, Option.toList_none, List.cons_append, List.nil_append, reduceIte, Nat.reduceEqDiff, Nat.reduceLT, Nat.reduceLeDiff, Nat.reduceSub, Nat.reduceMul, reduceCtorEq, ↓nwx_iconst, ↓nwx_ifCond, ↓nwx_ireturn, dmNf_crash_0, rmNf_crash, nw_b_f]; try simp (disch := omega) only [nw_b0, nw_b1, nw_ilt, nw_ile, nw_ieq, nw_icl, nw_iin, nI_add, and_true, true_and, and_false, false_and, not_false_eq_true, not_true_eq_false, false_implies, true_implies, Classical.not_not, ne_eq, reduceIte, Nat.reduceEqDiff, Nat.reduceLT, Nat.reduceLeDiff, Nat.reduceAdd, Nat.reduceSub, Nat.reduceMul, nw_b_f])
    rw [hp, if_neg hx]
    exact nw_rj_q hJ
  rw [if_pos hx] at hp
  have hx1 := hx
  obtain ⟨s, hs, rfl⟩ := q_srv_ok (j_g3 hJ) hn4 hx
  have hcs : (nI s).toNatClampNeg = s := nI_clamp (by omega)
  rw [hcs] at hp
  rw [hx1]
  have loop : ∀ d t, t + d = n → ∀ u, nw_J n u (q_crF S s t).2 B → nw_fm n w' u → ∀ v, V mNf_crash 14 [.ref 1, .int (nI s), .int (nI (q_crF S s t).1), .int (nI t), v] [] u 0 0 (nw_rj n B w' p) := by
    intro d
    induction d with
    | zero =>
      intro t ht u hJu hfm v
      have htn : t = n := by omega
      subst htn
      have hOu := hJu.1
      have hcu := nw_cf hOu
      have hsu := nw_cs hOu hs
      have hvu := nw_Ok_sv hOu hs
      unfold nw_Sv at hvu
      (apply V_s1 [14, 68] 29; simp only [nwx_0, nwx_S, nw_s1, nw_pII, nw_pA, nw_tIs, nw_vis, nw_jpx, Option.isSome_some, Option.getD_some, nw_popn, nw_rok, nw_wok, nw_isR, nw_cd, nw_at, nw_put, nw_nl0, nw_nlS, nw_no2s, nw_ft, nw_l01, nw_ak, nw_tsw, nw_flat, Value.category, List.mem_cons, List.not_mem_nil, List.length_cons, List.length_nil, or_false, false_or, or_true, true_or, and_true, true_and, and_false, false_and, if_true, if_false, Option.some.injEq, Prod.mk.injEq, and_assoc, exists_and_left, exists_eq_left, exists_eq_left', exists_const, nw_ks, nw_f4, nw_fvs, nw_some, Nat.reduceAdd, nw_sz_I, nw_kd_I, nw_ln_I, nw_rf_I, nw_L_I, nw_I_I, nw_sz_L, nw_kd_L, nw_ln_L, nw_rf_L, nw_I_L, nw_L_L, nw_ob_I, nw_ob_L, nw_obr_I, nw_obr_L, nI_add, nw_b0, nw_b1, nw_b01, not_false_eq_true, not_true_eq_false, false_implies, true_implies, Classical.not_not, nw_i10, decide_eq_false_iff_not, decide_eq_true_eq, ne_eq, Option.toList_some, Option.toList_none, List.cons_append, List.nil_append, reduceIte, Nat.reduceEqDiff, Nat.reduceLT, Nat.reduceLeDiff, Nat.reduceSub, Nat.reduceMul, reduceCtorEq, ↓nwx_aaload, ↓nwx_aload, ↓nwx_aload_n, ↓nwx_arraylength, ↓nwx_astore, ↓nwx_getfield, ↓nwx_iconst, ↓nwx_if_icmp, ↓nwx_iload_n, ↓nwx_invokevirtual, ↓nwx_ireturn, ↓nwx_putI, ↓nwx_putR, dmNf_crash_0, dmNf_crash_1, rmNf_crash, hcu, hsu, hvu, hcs]; try simp (disch := omega) only [nw_b0, nw_b1, nw_ilt, nw_ile, nw_ieq, nw_icl, nw_iin, nI_add, and_true, true_and, and_false, false_and, not_false_eq_true, not_true_eq_false, false_implies, true_implies, Classical.not_not, ne_eq, reduceIte, Nat.reduceEqDiff, Nat.reduceLT, Nat.reduceLeDiff, Nat.reduceAdd, Nat.reduceSub, Nat.reduceMul, hcu, hsu, hvu, hcs])
      refine br_t (Nat.le_refl _) ⟨hs, hs, ?_⟩
      rw [va_up_self, nw_setI2, hp]
      obtain ⟨g1, g2⟩ := nw_J_sel (S' := q_i (q_i (q_crF S s t).2 26 s (-1)) 27 s (-1)) hJu hs (nw_chg_I (nw_chg_r t s u) (by omega) (upd (upd (nw_I u (nw_S t s 0)) 10 (-1)) 11 (-1))) (fun k hk => nw_S_Ine hk) rfl (fun f h1 h2 => by rw [q_i_1, if_neg h2, q_i_1, if_neg h1]) rfl (fun t' ht' => ⟨pk_un ht', pk_un ht'⟩) (by
        have e26 : (q_i (q_i (q_crF S s t).2 26 s (-1)) 27 s (-1)).1 26 s = -1 := pk_us
        have e27 : (q_i (q_i (q_crF S s t).2 26 s (-1)) 27 s (-1)).1 27 s = -1 := pk_us
        have ec : nw_c t (nw_setI u (nw_S t s 0) (upd (upd (nw_I u (nw_S t s 0)) 10 (-1)) 11 (-1))) s 0 = upd (upd (nw_I u (nw_S t s 0)) 10 (-1)) 11 (-1) := nw_S_Ieq
        unfold j_sel
        rw [e26, e27, ec, pk_us, pk_un (by decide), pk_us]
        exact ⟨rfl, rfl, Or.inl rfl, Or.inl rfl⟩)
      exact ⟨rfl, g1, nw_fm_t hfm g2⟩
    | succ d ih =>
      intro t ht u hJu hfm v
      have htn : t < n := by omega
      have hOu := hJu.1
      have hcu := nw_cf hOu
      have hsu := nw_cs hOu htn
      have hvu := nw_Ok_sv hOu htn
      unfold nw_Sv at hvu
      have hct : (nI t).toNatClampNeg = t := nI_clamp (by omega)
      obtain ⟨-, c2, c3⟩ := q_crF_ok S s t
      obtain ⟨o1, o2⟩ := j_open hJu htn
      have e21 := c3 t (Nat.le_refl _)
      have e25 : (q_crF S s t).2.1 25 = S.1 25 := c2 25 (by decide)
      rw [e21] at o1 o2
      have h68 : ∀ u' c, nw_J n u' (q_crF S s (t + 1)).2 B → nw_fm n w' u' → c = (q_crF S s (t + 1)).1 → V mNf_crash 68 [.ref 1, .int (nI s), .int (nI c), .int (nI t), .ref (nw_S n t 6)] [] u' 0 0 (nw_rj n B w' p) := fun u' c hJ' hf' hcc => by
        (apply V_s1 [14] 4; simp only [nwx_0, nwx_S, nw_s1, nw_pII, nw_pA, nw_tIs, nw_vis, nw_jpx, Option.isSome_some, Option.getD_some, nw_popn, nw_rok, nw_wok, nw_isR, nw_cd, nw_at, nw_put, nw_nl0, nw_nlS, nw_no2s, nw_ft, nw_l01, nw_ak, nw_tsw, nw_flat, Value.category, List.mem_cons, List.not_mem_nil, List.length_cons, List.length_nil, or_false, false_or, or_true, true_or, and_true, true_and, and_false, false_and, if_true, if_false, Option.some.injEq, Prod.mk.injEq, and_assoc, exists_and_left, exists_eq_left, exists_eq_left', exists_const, nw_ks, nw_f4, nw_fvs, nw_some, Nat.reduceAdd, nw_sz_I, nw_kd_I, nw_ln_I, nw_rf_I, nw_L_I, nw_I_I, nw_sz_L, nw_kd_L, nw_ln_L, nw_rf_L, nw_I_L, nw_L_L, nw_ob_I, nw_ob_L, nw_obr_I, nw_obr_L, nI_add, nw_b0, nw_b1, nw_b01, not_false_eq_true, not_true_eq_false, false_implies, true_implies, Classical.not_not, nw_i10, decide_eq_false_iff_not, decide_eq_true_eq, ne_eq, Option.toList_some, Option.toList_none, List.cons_append, List.nil_append, reduceIte, Nat.reduceEqDiff, Nat.reduceLT, Nat.reduceLeDiff, Nat.reduceSub, Nat.reduceMul, reduceCtorEq, ↓nwx_goto, ↓nwx_iinc, dmNf_crash_0, rmNf_crash]; try simp (disch := omega) only [nw_b0, nw_b1, nw_ilt, nw_ile, nw_ieq, nw_icl, nw_iin, nI_add, and_true, true_and, and_false, false_and, not_false_eq_true, not_true_eq_false, false_implies, true_implies, Classical.not_not, ne_eq, reduceIte, Nat.reduceEqDiff, Nat.reduceLT, Nat.reduceLeDiff, Nat.reduceAdd, Nat.reduceSub, Nat.reduceMul])
        rw [hcc]
        exact ih (t + 1) (by omega) u' hJ' hf' _
      have no : ¬ (nI 0 < S.1 21 t ∧ (t = s ∨ S.1 25 t = nI s)) → V mNf_crash 68 [.ref 1, .int (nI s), .int (nI (q_crF S s t).1), .int (nI t), .ref (nw_S n t 6)] [] u 0 0 (nw_rj n B w' p) := fun h => by
        have e : q_crF S s (t + 1) = q_crF S s t := if_neg h
        refine h68 u _ ?_ hfm ?_
        · rw [e]
          exact hJu
        · rw [e]
      (apply V_s1 [14, 68] 29; simp only [nwx_0, nwx_S, nw_s1, nw_pII, nw_pA, nw_tIs, nw_vis, nw_jpx, Option.isSome_some, Option.getD_some, nw_popn, nw_rok, nw_wok, nw_isR, nw_cd, nw_at, nw_put, nw_nl0, nw_nlS, nw_no2s, nw_ft, nw_l01, nw_ak, nw_tsw, nw_flat, Value.category, List.mem_cons, List.not_mem_nil, List.length_cons, List.length_nil, or_false, false_or, or_true, true_or, and_true, true_and, and_false, false_and, if_true, if_false, Option.some.injEq, Prod.mk.injEq, and_assoc, exists_and_left, exists_eq_left, exists_eq_left', exists_const, nw_ks, nw_f4, nw_fvs, nw_some, Nat.reduceAdd, nw_sz_I, nw_kd_I, nw_ln_I, nw_rf_I, nw_L_I, nw_I_I, nw_sz_L, nw_kd_L, nw_ln_L, nw_rf_L, nw_I_L, nw_L_L, nw_ob_I, nw_ob_L, nw_obr_I, nw_obr_L, nI_add, nw_b0, nw_b1, nw_b01, not_false_eq_true, not_true_eq_false, false_implies, true_implies, Classical.not_not, nw_i10, decide_eq_false_iff_not, decide_eq_true_eq, ne_eq, Option.toList_some, Option.toList_none, List.cons_append, List.nil_append, reduceIte, Nat.reduceEqDiff, Nat.reduceLT, Nat.reduceLeDiff, Nat.reduceSub, Nat.reduceMul, reduceCtorEq, ↓nwx_aaload, ↓nwx_aload, ↓nwx_aload_n, ↓nwx_arraylength, ↓nwx_astore, ↓nwx_getfield, ↓nwx_iconst, ↓nwx_if_icmp, ↓nwx_iload_n, ↓nwx_invokevirtual, ↓nwx_ireturn, ↓nwx_putI, ↓nwx_putR, dmNf_crash_0, dmNf_crash_1, rmNf_crash, hcu, hsu, hvu, hct]; try simp (disch := omega) only [nw_b0, nw_b1, nw_ilt, nw_ile, nw_ieq, nw_icl, nw_iin, nI_add, and_true, true_and, and_false, false_and, not_false_eq_true, not_true_eq_false, false_implies, true_implies, Classical.not_not, ne_eq, reduceIte, Nat.reduceEqDiff, Nat.reduceLT, Nat.reduceLeDiff, Nat.reduceAdd, Nat.reduceSub, Nat.reduceMul, hcu, hsu, hvu, hct])
      refine br_f (by omega) ⟨htn, nw_do0 (c_In_isOpen hvu.2.2.2.2.2.2.2.2.2.2.2.2.2.2.2.2.2.2.2.2.2.2.1) ?_⟩
      rintro r w2 ⟨rfl, rfl⟩
      rcases (j_sv hJu htn).2.2.2.1.2 with ⟨a1, -⟩ | ⟨i, i1, i2, a1, -, -, a4, -⟩
      · rw [e21] at a1
        (apply V_s1 [56, 68] 10; simp only [nwx_0, nwx_S, nw_s1, nw_pII, nw_pA, nw_tIs, nw_vis, nw_jpx, Option.isSome_some, Option.getD_some, nw_popn, nw_rok, nw_wok, nw_isR, nw_cd, nw_at, nw_put, nw_nl0, nw_nlS, nw_no2s, nw_ft, nw_l01, nw_ak, nw_tsw, nw_flat, Value.category, List.mem_cons, List.not_mem_nil, List.length_cons, List.length_nil, or_false, false_or, or_true, true_or, and_true, true_and, and_false, false_and, if_true, if_false, Option.some.injEq, Prod.mk.injEq, and_assoc, exists_and_left, exists_eq_left, exists_eq_left', exists_const, nw_ks, nw_f4, nw_fvs, nw_some, Nat.reduceAdd, nw_sz_I, nw_kd_I, nw_ln_I, nw_rf_I, nw_L_I, nw_I_I, nw_sz_L, nw_kd_L, nw_ln_L, nw_rf_L, nw_I_L, nw_L_L, nw_ob_I, nw_ob_L, nw_obr_I, nw_obr_L, nI_add, nw_b0, nw_b1, nw_b01, not_false_eq_true, not_true_eq_false, false_implies, true_implies, Classical.not_not, nw_i10, decide_eq_false_iff_not, decide_eq_true_eq, ne_eq, Option.toList_some, Option.toList_none, List.cons_append, List.nil_append, reduceIte, Nat.reduceEqDiff, Nat.reduceLT, Nat.reduceLeDiff, Nat.reduceSub, Nat.reduceMul, reduceCtorEq, ↓nwx_aload, ↓nwx_getfield, ↓nwx_ifCond, ↓nwx_if_icmp, ↓nwx_iload_n, dmNf_crash_0, rmNf_crash, hcu, hsu, hvu, hct, o1, a1]; try simp (disch := omega) only [nw_b0, nw_b1, nw_ilt, nw_ile, nw_ieq, nw_icl, nw_iin, nI_add, and_true, true_and, and_false, false_and, not_false_eq_true, not_true_eq_false, false_implies, true_implies, Classical.not_not, ne_eq, reduceIte, Nat.reduceEqDiff, Nat.reduceLT, Nat.reduceLeDiff, Nat.reduceAdd, Nat.reduceSub, Nat.reduceMul, hcu, hsu, hvu, hct, o1, a1])
        exact no (fun q => by rw [a1] at q; exact absurd q.1 (by decide))
      · rw [e21] at a1
        rw [e25] at a4
        have a4 : nw_I w2 (nw_S n t 6) 3 = S.1 25 t := a4
        have hpos : nI 0 < S.1 21 t := by
          rw [a1, nI_lt' (by omega) (by omega)]
          omega
        have p56 : (t = s ∨ S.1 25 t = nI s) → V mNf_crash 56 [.ref 1, .int (nI s), .int (nI (q_crF S s t).1), .int (nI t), .ref (nw_S n t 6)] [] w2 0 0 (nw_rj n B w' p) := fun h => by
          have e : q_crF S s (t + 1) = ((q_crF S s t).1 + 1, q_i (q_crF S s t).2 21 t (nI 0)) := if_pos ⟨hpos, h⟩
          (apply V_s1 [] 7; simp only [nwx_0, nwx_S, nw_s1, nw_pII, nw_pA, nw_tIs, nw_vis, nw_jpx, Option.isSome_some, Option.getD_some, nw_popn, nw_rok, nw_wok, nw_isR, nw_cd, nw_at, nw_put, nw_nl0, nw_nlS, nw_no2s, nw_ft, nw_l01, nw_ak, nw_tsw, nw_flat, Value.category, List.mem_cons, List.not_mem_nil, List.length_cons, List.length_nil, or_false, false_or, or_true, true_or, and_true, true_and, and_false, false_and, if_true, if_false, Option.some.injEq, Prod.mk.injEq, and_assoc, exists_and_left, exists_eq_left, exists_eq_left', exists_const, nw_ks, nw_f4, nw_fvs, nw_some, Nat.reduceAdd, nw_sz_I, nw_kd_I, nw_ln_I, nw_rf_I, nw_L_I, nw_I_I, nw_sz_L, nw_kd_L, nw_ln_L, nw_rf_L, nw_I_L, nw_L_L, nw_ob_I, nw_ob_L, nw_obr_I, nw_obr_L, nI_add, nw_b0, nw_b1, nw_b01, not_false_eq_true, not_true_eq_false, false_implies, true_implies, Classical.not_not, nw_i10, decide_eq_false_iff_not, decide_eq_true_eq, ne_eq, Option.toList_some, Option.toList_none, List.cons_append, List.nil_append, reduceIte, Nat.reduceEqDiff, Nat.reduceLT, Nat.reduceLeDiff, Nat.reduceSub, Nat.reduceMul, reduceCtorEq, ↓nwx_aaload, ↓nwx_aload_n, ↓nwx_getfield, ↓nwx_iload_n, ↓nwx_invokevirtual, dmNf_crash_0, rmNf_crash, hcu, hsu, hvu, hct]; try simp (disch := omega) only [nw_b0, nw_b1, nw_ilt, nw_ile, nw_ieq, nw_icl, nw_iin, nI_add, and_true, true_and, and_false, false_and, not_false_eq_true, not_true_eq_false, false_implies, true_implies, Classical.not_not, ne_eq, reduceIte, Nat.reduceEqDiff, Nat.reduceLT, Nat.reduceLeDiff, Nat.reduceAdd, Nat.reduceSub, Nat.reduceMul, hcu, hsu, hvu, hct])
          refine ⟨htn, nw_do0 (c_Se_loseIntake hOu htn) ?_⟩
          rintro r w3 ⟨rfl, rfl⟩
          (apply V_s1 [68] 3; simp only [nwx_0, nwx_S, nw_s1, nw_pII, nw_pA, nw_tIs, nw_vis, nw_jpx, Option.isSome_some, Option.getD_some, nw_popn, nw_rok, nw_wok, nw_isR, nw_cd, nw_at, nw_put, nw_nl0, nw_nlS, nw_no2s, nw_ft, nw_l01, nw_ak, nw_tsw, nw_flat, Value.category, List.mem_cons, List.not_mem_nil, List.length_cons, List.length_nil, or_false, false_or, or_true, true_or, and_true, true_and, and_false, false_and, if_true, if_false, Option.some.injEq, Prod.mk.injEq, and_assoc, exists_and_left, exists_eq_left, exists_eq_left', exists_const, nw_ks, nw_f4, nw_fvs, nw_some, Nat.reduceAdd, nw_sz_I, nw_kd_I, nw_ln_I, nw_rf_I, nw_L_I, nw_I_I, nw_sz_L, nw_kd_L, nw_ln_L, nw_rf_L, nw_I_L, nw_L_L, nw_ob_I, nw_ob_L, nw_obr_I, nw_obr_L, nI_add, nw_b0, nw_b1, nw_b01, not_false_eq_true, not_true_eq_false, false_implies, true_implies, Classical.not_not, nw_i10, decide_eq_false_iff_not, decide_eq_true_eq, ne_eq, Option.toList_some, Option.toList_none, List.cons_append, List.nil_append, reduceIte, Nat.reduceEqDiff, Nat.reduceLT, Nat.reduceLeDiff, Nat.reduceSub, Nat.reduceMul, reduceCtorEq, ↓nwx_iinc, dmNf_crash_0, rmNf_crash]; try simp (disch := omega) only [nw_b0, nw_b1, nw_ilt, nw_ile, nw_ieq, nw_icl, nw_iin, nI_add, and_true, true_and, and_false, false_and, not_false_eq_true, not_true_eq_false, false_implies, true_implies, Classical.not_not, ne_eq, reduceIte, Nat.reduceEqDiff, Nat.reduceLT, Nat.reduceLeDiff, Nat.reduceAdd, Nat.reduceSub, Nat.reduceMul])
          rw [o1, a1]
          obtain ⟨g1, g2⟩ := nw_J_lose hJu htn i1 i2 (e21.trans a1)
          refine h68 _ _ ?_ (nw_fm_t hfm g2) ?_
          · rw [e]
            exact g1
          · rw [e]
        have i0 : ¬ nI i = nI 0 := by rw [nI_inj (by omega) (by omega)]; omega
        (apply V_s1 [56, 68] 10; simp only [nwx_0, nwx_S, nw_s1, nw_pII, nw_pA, nw_tIs, nw_vis, nw_jpx, Option.isSome_some, Option.getD_some, nw_popn, nw_rok, nw_wok, nw_isR, nw_cd, nw_at, nw_put, nw_nl0, nw_nlS, nw_no2s, nw_ft, nw_l01, nw_ak, nw_tsw, nw_flat, Value.category, List.mem_cons, List.not_mem_nil, List.length_cons, List.length_nil, or_false, false_or, or_true, true_or, and_true, true_and, and_false, false_and, if_true, if_false, Option.some.injEq, Prod.mk.injEq, and_assoc, exists_and_left, exists_eq_left, exists_eq_left', exists_const, nw_ks, nw_f4, nw_fvs, nw_some, Nat.reduceAdd, nw_sz_I, nw_kd_I, nw_ln_I, nw_rf_I, nw_L_I, nw_I_I, nw_sz_L, nw_kd_L, nw_ln_L, nw_rf_L, nw_I_L, nw_L_L, nw_ob_I, nw_ob_L, nw_obr_I, nw_obr_L, nI_add, nw_b0, nw_b1, nw_b01, not_false_eq_true, not_true_eq_false, false_implies, true_implies, Classical.not_not, nw_i10, decide_eq_false_iff_not, decide_eq_true_eq, ne_eq, Option.toList_some, Option.toList_none, List.cons_append, List.nil_append, reduceIte, Nat.reduceEqDiff, Nat.reduceLT, Nat.reduceLeDiff, Nat.reduceSub, Nat.reduceMul, reduceCtorEq, ↓nwx_aload, ↓nwx_getfield, ↓nwx_ifCond, ↓nwx_if_icmp, ↓nwx_iload_n, dmNf_crash_0, rmNf_crash, hcu, hsu, hvu, hct, o1, a1, a4, i0]; try simp (disch := omega) only [nw_b0, nw_b1, nw_ilt, nw_ile, nw_ieq, nw_icl, nw_iin, nI_add, and_true, true_and, and_false, false_and, not_false_eq_true, not_true_eq_false, false_implies, true_implies, Classical.not_not, ne_eq, reduceIte, Nat.reduceEqDiff, Nat.reduceLT, Nat.reduceLeDiff, Nat.reduceAdd, Nat.reduceSub, Nat.reduceMul, hcu, hsu, hvu, hct, o1, a1, a4, i0])
        exact ⟨fun q => p56 (Or.inl q), fun q => ⟨fun k => no (fun y => y.2.elim q k), fun k => p56 (Or.inr k)⟩⟩
  (apply V_s1 [14] 9; simp only [nwx_0, nwx_S, nw_s1, nw_pII, nw_pA, nw_tIs, nw_vis, nw_jpx, Option.isSome_some, Option.getD_some, nw_popn, nw_rok, nw_wok, nw_isR, nw_cd, nw_at, nw_put, nw_nl0, nw_nlS, nw_no2s, nw_ft, nw_l01, nw_ak, nw_tsw, nw_flat, Value.category, List.mem_cons, List.not_mem_nil, List.length_cons, List.length_nil, or_false, false_or, or_true, true_or, and_true, true_and, and_false, false_and, if_true, if_false, Option.some.injEq, Prod.mk.injEq, and_assoc, exists_and_left, exists_eq_left, exists_eq_left', exists_const, nw_ks, nw_f4, nw_fvs, nw_some, Nat.reduceAdd, nw_sz_I, nw_kd_I, nw_ln_I, nw_rf_I, nw_L_I, nw_I_I, nw_sz_L, nw_kd_L, nw_ln_L, nw_rf_L, nw_I_L, nw_L_L, nw_ob_I, nw_ob_L, nw_obr_I, nw_obr_L, nI_add, nw_b0, nw_b1, nw_b01, not_false_eq_true, not_true_eq_false, false_implies, true_implies, Classical.not_not, nw_i10, decide_eq_false_iff_not, decide_eq_true_eq, ne_eq, Option.toList_some, Option.toList_none, List.cons_append, List.nil_append, reduceIte, Nat.reduceEqDiff, Nat.reduceLT, Nat.reduceLeDiff, Nat.reduceSub, Nat.reduceMul, reduceCtorEq, ↓nwx_iconst, ↓nwx_ifCond, ↓nwx_ireturn, ↓nwx_istore_n, dmNf_crash_0, rmNf_crash, nw_b_t]; try simp (disch := omega) only [nw_b0, nw_b1, nw_ilt, nw_ile, nw_ieq, nw_icl, nw_iin, nI_add, and_true, true_and, and_false, false_and, not_false_eq_true, not_true_eq_false, false_implies, true_implies, Classical.not_not, ne_eq, reduceIte, Nat.reduceEqDiff, Nat.reduceLT, Nat.reduceLeDiff, Nat.reduceAdd, Nat.reduceSub, Nat.reduceMul, nw_b_t])
  exact loop n 0 (by omega) _ hJ (nw_fm_r n _) _
-- numbers that are old
theorem q_oldF_g (S : nw_Q) (s i : Nat) {g : Nat} : ∀ G, g < G → (q_oldF S s i G).2.1 17 (6 * (41 * s + i) + g) = q_oldX S s i g
  | 0, h => by omega
  | G + 1, h => by
    show (q_i (q_oldF S s i G).2 17 (6 * (41 * s + i) + G) (q_oldX S s i G)).1 17 _ = _
    by_cases hg : g = G
    · rw [hg]
      exact pk_us
    · rw [q_i_x (by omega)]
      exact q_oldF_g S s i G (by omega)
theorem q_oldF_chg (S : nw_Q) {s i : Nat} (hi : i ≤ 40) : ∀ G, G ≤ 6 → q_chg s S (q_oldF S s i G).2
  | 0, _ => q_chg_r s S
  | G + 1, hG => q_chg_i (q_oldF_chg S hi G (by omega)) (by omega)
theorem q_oldF_has {S : nw_Q} {s i : Nat} {f : Nat → Int32} : ∀ G, (∀ g, g < G → f g = q_oldX S s i g) → (q_oldF S s i G).1 = !(nw_has f G)
  | 0, _ => rfl
  | G + 1, h => by
    show ((q_oldF S s i G).1 && decide (q_oldX S s i G = nI 0)) = !(nw_has f G || decide (f G ≠ nI 0))
    rw [q_oldF_has G (fun g hg => h g (by omega)), h G (by omega), Bool.not_or, decide_not, Bool.not_not]
theorem nw_J_old {s i : Nat} (hJ : nw_J n w S B) (hs : s < n) (i1 : 1 ≤ i) (i2 : i ≤ 40) (h12 : S.1 12 (41 * s + i) = nI 1) : (nw_J n (nw_old n s i (nw_I w 1 5) w 6) (q_oldF S s i 6).2 B ∧ nw_fm n w (nw_old n s i (nw_I w 1 5) w 6)) ∧ (q_oldF S s i 6).1 = !(nw_has (fun g => nw_I (nw_old n s i (nw_I w 1 5) w 6) (nw_S n s (10 + g)) i) 6) := by
  have hn4 := hJ.1.2.1
  obtain ⟨p1, p2, p3, p4, p5, p6, p7, p8⟩ := j_sv hJ hs
  obtain ⟨o1, o2, o3, o4⟩ := nw_old_ok n s i (nw_I w 1 5) w 6 (Nat.le_refl _)
  have hclk : nw_I w 1 5 = S.1 3 2 := hJ.2.2.1.2.2.1
  have e16 : nw_I w (nw_S n s 16) i = S.1 14 (41 * s + i) := (p1 i i1 i2).2.2.1
  have hcell : ∀ g, g < 6 → (nw_I (nw_old n s i (nw_I w 1 5) w 6) (nw_S n s (10 + g)) i = q_oldX S s i g ∧ ∀ j, j ≠ i → nw_I (nw_old n s i (nw_I w 1 5) w 6) (nw_S n s (10 + g)) j = nw_I w (nw_S n s (10 + g)) j) := fun g hg => by
    obtain ⟨a1, a2, a3, h, a4, a5, a6⟩ := p2 g hg
    have a1 : nw_I w (nw_S n s 7) g = S.1 10 (6 * s + g) := a1
    have b1 : nw_I w (nw_S n s (10 + g)) i = S.1 17 (6 * (41 * s + i) + g) := (a6 i i1 i2).1
    rw [o4 g hg, a1, hclk, e16]
    unfold q_oldX
    by_cases hc : S.1 10 (6 * s + g) < S.1 3 2 - S.1 14 (41 * s + i)
    · rw [if_pos hc, if_pos hc]
      exact ⟨pk_us, fun j hj => pk_un hj⟩
    · rw [if_neg hc, if_neg hc]
      exact ⟨b1, fun j _ => rfl⟩
  have hlow : ∀ f, f ≠ 17 → (q_oldF S s i 6).2.1 f = S.1 f := fun f hf => q_oldF_1 S s i hf 6
  have hqc := q_oldF_chg S (s := s) i2 6 (Nat.le_refl _)
  have kp := q_chg_kp hqc
  have hI : ∀ k, k < 10 ∨ 15 < k → nw_c n (nw_old n s i (nw_I w 1 5) w 6) s k = nw_c n w s k := fun k hk => o3 _ (fun g hg => by rw [Ne, nw_Sk]; omega)
  have s12 := hlow 12 (by decide)
  obtain ⟨r1, r2, r3⟩ := hJ.2.1
  refine ⟨nw_J_q hJ hs (Nat.le_refl _) ⟨o1, fun a ha => ⟨o3 a (fun g hg => ha _ (by omega)), by rw [o2]⟩⟩ ⟨fun l hl => by rw [hlow 20 (by decide)]; exact r1 l hl, fun t ht => by rw [hlow 21 (by decide)]; exact r2 t ht, fun j hj => by rw [hlow 8 (by decide)]; exact r3 j hj⟩ hqc ?_, q_oldF_has 6 (fun g hg => (hcell g hg).1)⟩
  refine ⟨j_ent_c p1 ⟨hI 4 (by omega), hI 5 (by omega), hI 16 (by omega), hI 17 (by omega)⟩ (fun i _ _ => ⟨by rw [s12], by rw [hlow 13 (by decide)], by rw [hlow 14 (by decide)], by rw [hlow 16 (by decide)]⟩) kp, fun g hg => ?_, j_cnt_c p3 (hI 3 (by omega)) (fun i _ _ => by rw [s12]), j_int_c p4 (hI 6 (by omega)) ⟨by rw [hlow 21 (by decide)], by rw [hlow 22 (by decide)], by rw [hlow 24 (by decide)], by rw [hlow 25 (by decide)]⟩ (fun i _ _ => by rw [s12]) kp, j_sel_c p5 (hI 0 (by omega)) (Nat.le_refl _) ⟨by rw [hlow 26 (by decide)], by rw [hlow 27 (by decide)]⟩, j_own_c p6 (hI 2 (by omega)) ⟨by rw [hlow 21 (by decide)], by rw [hlow 23 (by decide)]⟩ (fun i _ _ => ⟨by rw [s12], by rw [hlow 15 (by decide)]⟩) (fun i _ _ _ => by rw [hlow 7 (by decide)]), j_pat_c p7 (by rw [o2]) (fun t _ => by rw [hqc.1]), j_bl_c p8 (fun t ht => ⟨hI _ (by omega), hI _ (by omega)⟩) (fun t _ => by rw [hlow 20 (by decide)]) (fun t k _ _ => by rw [hlow 19 (by decide)]) (fun i _ _ q => by rw [s12]; exact q)⟩
  obtain ⟨a1, a2, a3, h, a4, a5, a6⟩ := p2 g hg
  rw [hI 7 (by omega), hI 8 (by omega), hlow 10 (by decide), hlow 11 (by decide)]
  refine ⟨a1, a2, a3, h, a4, a5, fun j j1 j2 => ?_⟩
  obtain ⟨c1, k, c2, c3, c4⟩ := a6 j j1 j2
  rw [s12]
  by_cases hji : j = i
  · subst hji
    rw [q_oldF_g S s j 6 hg]
    refine ⟨(hcell g hg).1, ?_⟩
    unfold q_oldX
    split
    · exact ⟨0, by omega, rfl, fun _ => rfl⟩
    · exact ⟨k, c2, c3, c4⟩
  · rw [q_oldF_17 S s i 6 (fun g' hg' => by omega)]
    exact ⟨((hcell g hg).2 j hji).trans c1, k, c2, c3, c4⟩
theorem q_drF_at (S : nw_Q) (s : Nat) {j : Nat} (j1 : 1 ≤ j) : ∀ K, (q_drF S s K).1 12 (41 * s + j) = if j ≤ K ∧ ¬ S.1 12 (41 * s + j) = nI 1 ∧ S.1 13 (41 * s + j) < S.1 3 2 then nI 0 else S.1 12 (41 * s + j)
  | 0 => by rw [if_neg (fun z => by omega)]; rfl
  | K + 1 => by
    show (q_i (q_drF S s K) 12 (41 * s + (K + 1)) _).1 12 (41 * s + j) = _
    by_cases hj : j = K + 1
    · subst hj
      refine pk_us.trans ?_
      by_cases hc : ¬ S.1 12 (41 * s + (K + 1)) = nI 1 ∧ S.1 13 (41 * s + (K + 1)) < S.1 3 2
      · rw [if_pos hc, if_pos ⟨Nat.le_refl _, hc⟩]
      · rw [if_neg hc, if_neg (fun z => hc z.2)]
    · rw [q_i_x (by omega), q_drF_at S s j1 K]
      simp only [show (j ≤ K + 1) = (j ≤ K) from propext (by omega)]
theorem q_drF_chg (S : nw_Q) (s : Nat) : ∀ K, K ≤ 40 → q_chg s S (q_drF S s K)
  | 0, _ => q_chg_r s S
  | K + 1, hK => q_chg_i (q_drF_chg S s K (by omega)) (by omega)
theorem nw_J_drop {s : Nat} (hJ : nw_J n w S B) (hs : s < n) : nw_J n (nw_setI (nw_setI w (nw_S n s 4) (nw_drp (nw_I w (nw_S n s 4)) (nw_I w (nw_S n s 5)) (nw_I w 1 5) 40)) (nw_S n s 3) (upd (nw_I w (nw_S n s 3)) 2 (nI (nw_ids (fun i => decide (nw_drp (nw_I w (nw_S n s 4)) (nw_I w (nw_S n s 5)) (nw_I w 1 5) 40 i ≠ nI 0)))))) (q_drF S s 40) B ∧ nw_fm n w (nw_setI (nw_setI w (nw_S n s 4) (nw_drp (nw_I w (nw_S n s 4)) (nw_I w (nw_S n s 5)) (nw_I w 1 5) 40)) (nw_S n s 3) (upd (nw_I w (nw_S n s 3)) 2 (nI (nw_ids (fun i => decide (nw_drp (nw_I w (nw_S n s 4)) (nw_I w (nw_S n s 5)) (nw_I w 1 5) 40 i ≠ nI 0)))))) := by
  have hn4 := hJ.1.2.1
  obtain ⟨p1, p2, p3, p4, p5, p6, p7, p8⟩ := j_sv hJ hs
  have hclk : nw_I w 1 5 = S.1 3 2 := hJ.2.2.1.2.2.1
  have hd : ∀ j, 1 ≤ j → j ≤ 40 → nw_drp (nw_I w (nw_S n s 4)) (nw_I w (nw_S n s 5)) (nw_I w 1 5) 40 j = (q_drF S s 40).1 12 (41 * s + j) := fun j j1 j2 => by
    obtain ⟨a1, a2, -⟩ := p1 j j1 j2
    have a1 : nw_I w (nw_S n s 4) j = S.1 12 (41 * s + j) := a1
    have a2 : nw_I w (nw_S n s 5) j = S.1 13 (41 * s + j) := a2
    rw [q_drF_at S s j1]
    unfold nw_drp
    rw [a1, a2, hclk]
    by_cases h0 : S.1 12 (41 * s + j) = nI 0
    · rw [if_neg (fun z => z.2.2.1 h0), h0]
      split <;> rfl
    · by_cases hc : ¬ S.1 12 (41 * s + j) = nI 1 ∧ S.1 13 (41 * s + j) < S.1 3 2
      · rw [if_pos ⟨j1, j2, h0, hc⟩, if_pos ⟨j2, hc⟩]
      · rw [if_neg (fun z => hc z.2.2.2), if_neg (fun z => hc z.2)]
  have hlow := (q_drF_ok S s 40).1
  have hval : ∀ j, 1 ≤ j → j ≤ 40 → (q_drF S s 40).1 12 (41 * s + j) = nI 0 ∨ (q_drF S s 40).1 12 (41 * s + j) = S.1 12 (41 * s + j) := fun j j1 j2 => by
    rw [q_drF_at S s j1]
    split
    · exact Or.inl rfl
    · exact Or.inr rfl
  have hk5 : ∀ j, 1 ≤ j → j ≤ 40 → ∃ k, k < 5 ∧ (q_drF S s 40).1 12 (41 * s + j) = nI k := fun j j1 j2 => by
    rcases hval j j1 j2 with h | h
    · exact ⟨0, by omega, h⟩
    · rw [h]
      exact (p1 j j1 j2).2.2.2.2.1
  have hents : nw_ids (fun i => decide (nw_drp (nw_I w (nw_S n s 4)) (nw_I w (nw_S n s 5)) (nw_I w 1 5) 40 i ≠ nI 0)) = q_ents (q_drF S s 40) s := nw_ids_eq (fun j j1 j2 => by
    obtain ⟨k, k1, k2⟩ := hk5 j j1 j2
    rw [hd j j1 j2, k2]
    exact decide_eq_decide.mpr (by rw [ne_eq, nI_inj (by omega) (by omega), nI_lt' (by omega) (by omega)]; omega))
  have hle : q_ents (q_drF S s 40) s ≤ q_ents S s := nw_ids_mono (fun j j1 j2 h => by
    rcases hval j j1 j2 with q | q
    · rw [q] at h
      exact absurd (of_decide_eq_true h) (by decide)
    · rw [q] at h
      exact h)
  rw [hents]
  obtain ⟨w', hw'⟩ : ∃ w', w' = nw_setI (nw_setI w (nw_S n s 4) (nw_drp (nw_I w (nw_S n s 4)) (nw_I w (nw_S n s 5)) (nw_I w 1 5) 40)) (nw_S n s 3) (upd (nw_I w (nw_S n s 3)) 2 (nI (q_ents (q_drF S s 40) s))) := ⟨_, rfl⟩
  rw [← hw']
  have hI : ∀ k, k ≠ 3 → k ≠ 4 → nw_c n w' s k = nw_c n w s k := fun k k3 k4 => by
    show nw_I w' (nw_S n s k) = _
    rw [hw', nw_S_Ine k3, nw_S_Ine k4]
    rfl
  have h3 : nw_c n w' s 3 = upd (nw_I w (nw_S n s 3)) 2 (nI (q_ents (q_drF S s 40) s)) := by
    show nw_I w' (nw_S n s 3) = _
    rw [hw', nw_S_Ieq]
  have h4 : nw_c n w' s 4 = nw_drp (nw_I w (nw_S n s 4)) (nw_I w (nw_S n s 5)) (nw_I w 1 5) 40 := by
    show nw_I w' (nw_S n s 4) = _
    rw [hw', nw_S_Ine (by decide), nw_S_Ieq]
  have c2 := p3.2
  refine nw_J_kk hJ hs (by rw [hw']; exact nw_chg_I (nw_chg_I (nw_chg_r n s w) (by omega) _) (by omega) _) (fun k k3 k4 _ => hI k k3 k4) (by rw [hw']; rfl) (q_drF_chg S s 40 (Nat.le_refl _)) (fun f f1 _ => hlow f f1) (fun j j1 j2 => ?_) (fun j j1 j2 => ⟨by rw [h4]; exact hd j j1 j2, hk5 j j1 j2⟩) (fun j j1 j2 => ?_) ?_ ?_
  · rw [q_drF_at S s j1]
    by_cases h1 : S.1 12 (41 * s + j) = nI 1
    · rw [if_neg (fun z => z.2.1 h1)]
    · refine ⟨fun q => ?_, fun q => absurd q h1⟩
      split at q
      · exact absurd q (by decide)
      · exact q
  · rw [hI 5 (by omega) (by omega), hlow 13 (by decide)]
    exact (p1 j j1 j2).2.1
  · unfold j_cnt
    rw [h3, pk_us]
    exact ⟨rfl, by omega⟩
  · unfold j_int
    rw [hI 6 (by omega) (by omega), hlow 21 (by decide), hlow 22 (by decide), hlow 24 (by decide), hlow 25 (by decide), hlow 9 (by decide)]
    refine ⟨p4.1, ?_⟩
    rcases p4.2 with q | ⟨j, j1, j2, a1, a2, a3, a4, a5, a6, a7, a8⟩
    · exact Or.inl q
    · refine Or.inr ⟨j, j1, j2, a1, a2, a3, a4, a5, ?_, by omega, a8⟩
      rcases hval j j1 j2 with q | q
      · exact q
      · rw [q]; exact a6
set_option maxRecDepth 20000 in
theorem p_Nf_expire (x : Int32) (hJ : nw_J n w S B) : V mNf_expire 0 (nw_ent mNf_expire [.ref 1, .int x]) [] w 0 0 (nw_rj n B w (q_expire S x)) := by
  have hO := hJ.1
  have hn4 := hO.2.1
  have hc := nw_cf hO
  obtain ⟨p, hp⟩ : ∃ p, p = q_expire S x := ⟨_, rfl⟩
  rw [← hp, emNf_expire]
  unfold q_expire at hp
  (apply V_s1 [] 5; simp only [nwx_0, nwx_S, nw_s1, nw_pII, nw_pA, nw_tIs, nw_vis, nw_jpx, Option.isSome_some, Option.getD_some, nw_popn, nw_rok, nw_wok, nw_isR, nw_cd, nw_at, nw_put, nw_nl0, nw_nlS, nw_no2s, nw_ft, nw_l01, nw_ak, nw_tsw, nw_flat, Value.category, List.mem_cons, List.not_mem_nil, List.length_cons, List.length_nil, or_false, false_or, or_true, true_or, and_true, true_and, and_false, false_and, if_true, if_false, Option.some.injEq, Prod.mk.injEq, and_assoc, exists_and_left, exists_eq_left, exists_eq_left', exists_const, nw_ks, nw_f4, nw_fvs, nw_some, Nat.reduceAdd, nw_sz_I, nw_kd_I, nw_ln_I, nw_rf_I, nw_L_I, nw_I_I, nw_sz_L, nw_kd_L, nw_ln_L, nw_rf_L, nw_I_L, nw_L_L, nw_ob_I, nw_ob_L, nw_obr_I, nw_obr_L, nI_add, nw_b0, nw_b1, nw_b01, not_false_eq_true, not_true_eq_false, false_implies, true_implies, Classical.not_not, nw_i10, decide_eq_false_iff_not, decide_eq_true_eq, ne_eq, Option.toList_some, Option.toList_none, List.cons_append, List.nil_append, reduceIte, Nat.reduceEqDiff, Nat.reduceLT, Nat.reduceLeDiff, Nat.reduceSub, Nat.reduceMul, reduceCtorEq, ↓nwx_aload_n, ↓nwx_iload_n, ↓nwx_invokevirtual, dmNf_expire_0, rmNf_expire, hc]; try simp (disch := omega) only [nw_b0, nw_b1, nw_ilt, nw_ile, nw_ieq, nw_icl, nw_iin, nI_add, and_true, true_and, and_false, false_and, not_false_eq_true, not_true_eq_false, false_implies, true_implies, Classical.not_not, ne_eq, reduceIte, Nat.reduceEqDiff, Nat.reduceLT, Nat.reduceLeDiff, Nat.reduceAdd, Nat.reduceSub, Nat.reduceMul, hc])
  refine nw_do0 (c_Nf_isServer x hO) ?_
  rintro r w' ⟨rfl, rfl⟩
  rw [← q_srv_k (j_g3 hJ)]
  by_cases hx : q_srv S x = true
  case neg =>
    rw [eq_false_of_ne_true hx]
    (apply V_s1 [10] 5; simp only [nwx_0, nwx_S, nw_s1, nw_pII, nw_pA, nw_tIs, nw_vis, nw_jpx, Option.isSome_some, Option.getD_some, nw_popn, nw_rok, nw_wok, nw_isR, nw_cd, nw_at, nw_put, nw_nl0, nw_nlS, nw_no2s, nw_ft, nw_l01, nw_ak, nw_tsw, nw_flat, Value.category, List.mem_cons, List.not_mem_nil, List.length_cons, List.length_nil, or_false, false_or, or_true, true_or, and_true, true_and, and_false, false_and, if_true, if_false, Option.some.injEq, Prod.mk.injEq, and_assoc, exists_and_left, exists_eq_left, exists_eq_left', exists_const, nw_ks, nw_f4, nw_fvs, nw_some, Nat.reduceAdd, nw_sz_I, nw_kd_I, nw_ln_I, nw_rf_I, nw_L_I, nw_I_I, nw_sz_L, nw_kd_L, nw_ln_L, nw_rf_L, nw_I_L, nw_L_L, nw_ob_I, nw_ob_L, nw_obr_I, nw_obr_L, nI_add, nw_b0, nw_b1, nw_b01, not_false_eq_true, not_true_eq_false, false_implies, true_implies, Classical.not_not, nw_i10, decide_eq_false_iff_not, decide_eq_true_eq, ne_eq, Option.toList_some, Option.toList_none, List.cons_append, List.nil_append, reduceIte, Nat.reduceEqDiff, Nat.reduceLT, Nat.reduceLeDiff, Nat.reduceSub, Nat.reduceMul, reduceCtorEq, ↓nwx_iconst, ↓nwx_ifCond, ↓nwx_ireturn, dmNf_expire_0, rmNf_expire, nw_b_f]; try simp (disch := omega) only [nw_b0, nw_b1, nw_ilt, nw_ile, nw_ieq, nw_icl, nw_iin, nI_add, and_true, true_and, and_false, false_and, not_false_eq_true, not_true_eq_false, false_implies, true_implies, Classical.not_not, ne_eq, reduceIte, Nat.reduceEqDiff, Nat.reduceLT, Nat.reduceLeDiff, Nat.reduceAdd, Nat.reduceSub, Nat.reduceMul, nw_b_f])
    rw [hp, if_neg hx]
    exact nw_rj_q hJ
  rw [if_pos hx] at hp
  have hx1 := hx
  obtain ⟨s, hs, rfl⟩ := q_srv_ok (j_g3 hJ) hn4 hx
  have hcs : (nI s).toNatClampNeg = s := nI_clamp (by omega)
  rw [hcs] at hp
  rw [hx1]
  have loop : ∀ d k, k + d = 40 → ∀ u, nw_J n u (q_exF S s k).2 B → nw_fm n w' u → V mNf_expire 22 [.ref 1, .int (nI s), .ref (nw_S n s 0), .int (nI (q_exF S s k).1), .int (nI (k + 1))] [] u 0 0 (nw_rj n B w' p) := by
    intro d
    induction d with
    | zero =>
      intro k hk u hJu hfm
      have hk40 : k = 40 := by omega
      subst hk40
      have hOu := hJu.1
      have hcu := nw_cf hOu
      have hvu := nw_Ok_sv hOu hs
      unfold nw_Sv at hvu
      have v3 := hvu.2.2.2.2.2.2.2.2.2.2.2.2.2.2.2
      (apply V_s1 [22, 70] 14; simp only [nwx_0, nwx_S, nw_s1, nw_pII, nw_pA, nw_tIs, nw_vis, nw_jpx, Option.isSome_some, Option.getD_some, nw_popn, nw_rok, nw_wok, nw_isR, nw_cd, nw_at, nw_put, nw_nl0, nw_nlS, nw_no2s, nw_ft, nw_l01, nw_ak, nw_tsw, nw_flat, Value.category, List.mem_cons, List.not_mem_nil, List.length_cons, List.length_nil, or_false, false_or, or_true, true_or, and_true, true_and, and_false, false_and, if_true, if_false, Option.some.injEq, Prod.mk.injEq, and_assoc, exists_and_left, exists_eq_left, exists_eq_left', exists_const, nw_ks, nw_f4, nw_fvs, nw_some, Nat.reduceAdd, nw_sz_I, nw_kd_I, nw_ln_I, nw_rf_I, nw_L_I, nw_I_I, nw_sz_L, nw_kd_L, nw_ln_L, nw_rf_L, nw_I_L, nw_L_L, nw_ob_I, nw_ob_L, nw_obr_I, nw_obr_L, nI_add, nw_b0, nw_b1, nw_b01, not_false_eq_true, not_true_eq_false, false_implies, true_implies, Classical.not_not, nw_i10, decide_eq_false_iff_not, decide_eq_true_eq, ne_eq, Option.toList_some, Option.toList_none, List.cons_append, List.nil_append, reduceIte, Nat.reduceEqDiff, Nat.reduceLT, Nat.reduceLeDiff, Nat.reduceSub, Nat.reduceMul, reduceCtorEq, ↓nwx_aload_n, ↓nwx_bipush, ↓nwx_getfield, ↓nwx_if_icmp, ↓nwx_iload, ↓nwx_invokevirtual, dmNf_expire_0, dmNf_expire_1, rmNf_expire, hcu, hvu]; try simp (disch := omega) only [nw_b0, nw_b1, nw_ilt, nw_ile, nw_ieq, nw_icl, nw_iin, nI_add, and_true, true_and, and_false, false_and, not_false_eq_true, not_true_eq_false, false_implies, true_implies, Classical.not_not, ne_eq, reduceIte, Nat.reduceEqDiff, Nat.reduceLT, Nat.reduceLeDiff, Nat.reduceAdd, Nat.reduceSub, Nat.reduceMul, hcu, hvu])
      refine nw_do0 (c_En_drop (k := nw_S n s 4) (u := nw_S n s 5) _ v3.1 v3.2.1 v3.2.2.1 v3.2.2.2.1 v3.2.2.2.2.1 v3.2.2.2.2.2.1 v3.2.2.2.2.2.2.1 (by rw [nw_Sk]; decide) (by rw [nw_Sk]; decide) (by rw [nw_Sk]; decide) ?_) ?_
      · refine ((j_sv hJu hs).2.2.1.1).trans (congrArg nI (nw_ids_eq (fun j j1 j2 => ?_)))
        obtain ⟨a1, -, -, -, ⟨K, K5, a5⟩, -⟩ := (j_sv hJu hs).1 j j1 j2
        have a1 : nw_I u (nw_S n s 4) j = _ := a1
        rw [a1, a5]
        exact decide_eq_decide.mpr (by rw [ne_eq, nI_inj (by omega) (by omega), nI_lt' (by omega) (by omega)]; omega)
      · rintro r w2 ⟨rfl, rfl⟩
        (apply V_s1 [] 4; simp only [nwx_0, nwx_S, nw_s1, nw_pII, nw_pA, nw_tIs, nw_vis, nw_jpx, Option.isSome_some, Option.getD_some, nw_popn, nw_rok, nw_wok, nw_isR, nw_cd, nw_at, nw_put, nw_nl0, nw_nlS, nw_no2s, nw_ft, nw_l01, nw_ak, nw_tsw, nw_flat, Value.category, List.mem_cons, List.not_mem_nil, List.length_cons, List.length_nil, or_false, false_or, or_true, true_or, and_true, true_and, and_false, false_and, if_true, if_false, Option.some.injEq, Prod.mk.injEq, and_assoc, exists_and_left, exists_eq_left, exists_eq_left', exists_const, nw_ks, nw_f4, nw_fvs, nw_some, Nat.reduceAdd, nw_sz_I, nw_kd_I, nw_ln_I, nw_rf_I, nw_L_I, nw_I_I, nw_sz_L, nw_kd_L, nw_ln_L, nw_rf_L, nw_I_L, nw_L_L, nw_ob_I, nw_ob_L, nw_obr_I, nw_obr_L, nI_add, nw_b0, nw_b1, nw_b01, not_false_eq_true, not_true_eq_false, false_implies, true_implies, Classical.not_not, nw_i10, decide_eq_false_iff_not, decide_eq_true_eq, ne_eq, Option.toList_some, Option.toList_none, List.cons_append, List.nil_append, reduceIte, Nat.reduceEqDiff, Nat.reduceLT, Nat.reduceLeDiff, Nat.reduceSub, Nat.reduceMul, reduceCtorEq, ↓nwx_iload_n, ↓nwx_ireturn, dmNf_expire_1, rmNf_expire]; try simp (disch := omega) only [nw_b0, nw_b1, nw_ilt, nw_ile, nw_ieq, nw_icl, nw_iin, nI_add, and_true, true_and, and_false, false_and, not_false_eq_true, not_true_eq_false, false_implies, true_implies, Classical.not_not, ne_eq, reduceIte, Nat.reduceEqDiff, Nat.reduceLT, Nat.reduceLeDiff, Nat.reduceAdd, Nat.reduceSub, Nat.reduceMul])
        rw [hp]
        obtain ⟨g1, g2⟩ := nw_J_drop hJu hs
        exact ⟨rfl, nw_J_up g1, nw_fm_t hfm g2⟩
    | succ d ih =>
      intro k hk u hJu hfm
      have hOu := hJu.1
      have hcu := nw_cf hOu
      have hvu := nw_Ok_sv hOu hs
      unfold nw_Sv at hvu
      have v3 := hvu.2.2.2.2.2.2.2.2.2.2.2.2.2.2.2
      obtain ⟨n1, -⟩ := j_known hJu hs (i := k + 1) (by omega) (by omega)
      have e : q_exF S s (k + 1) = ((q_exF S s k).1 + (q_exI (q_exF S s k).2 s (k + 1)).1, (q_exI (q_exF S s k).2 s (k + 1)).2) := rfl
      have h70 : ∀ u' c, nw_J n u' (q_exF S s (k + 1)).2 B → nw_fm n w' u' → c = (q_exF S s (k + 1)).1 → V mNf_expire 70 [.ref 1, .int (nI s), .ref (nw_S n s 0), .int (nI c), .int (nI (k + 1))] [] u' 0 0 (nw_rj n B w' p) := fun u' c hJ' hf' hcc => by
        (apply V_s1 [22] 4; simp only [nwx_0, nwx_S, nw_s1, nw_pII, nw_pA, nw_tIs, nw_vis, nw_jpx, Option.isSome_some, Option.getD_some, nw_popn, nw_rok, nw_wok, nw_isR, nw_cd, nw_at, nw_put, nw_nl0, nw_nlS, nw_no2s, nw_ft, nw_l01, nw_ak, nw_tsw, nw_flat, Value.category, List.mem_cons, List.not_mem_nil, List.length_cons, List.length_nil, or_false, false_or, or_true, true_or, and_true, true_and, and_false, false_and, if_true, if_false, Option.some.injEq, Prod.mk.injEq, and_assoc, exists_and_left, exists_eq_left, exists_eq_left', exists_const, nw_ks, nw_f4, nw_fvs, nw_some, Nat.reduceAdd, nw_sz_I, nw_kd_I, nw_ln_I, nw_rf_I, nw_L_I, nw_I_I, nw_sz_L, nw_kd_L, nw_ln_L, nw_rf_L, nw_I_L, nw_L_L, nw_ob_I, nw_ob_L, nw_obr_I, nw_obr_L, nI_add, nw_b0, nw_b1, nw_b01, not_false_eq_true, not_true_eq_false, false_implies, true_implies, Classical.not_not, nw_i10, decide_eq_false_iff_not, decide_eq_true_eq, ne_eq, Option.toList_some, Option.toList_none, List.cons_append, List.nil_append, reduceIte, Nat.reduceEqDiff, Nat.reduceLT, Nat.reduceLeDiff, Nat.reduceSub, Nat.reduceMul, reduceCtorEq, ↓nwx_goto, ↓nwx_iinc, dmNf_expire_0, rmNf_expire]; try simp (disch := omega) only [nw_b0, nw_b1, nw_ilt, nw_ile, nw_ieq, nw_icl, nw_iin, nI_add, and_true, true_and, and_false, false_and, not_false_eq_true, not_true_eq_false, false_implies, true_implies, Classical.not_not, ne_eq, reduceIte, Nat.reduceEqDiff, Nat.reduceLT, Nat.reduceLeDiff, Nat.reduceAdd, Nat.reduceSub, Nat.reduceMul])
        rw [hcc]
        exact ih (k + 1) (by omega) u' hJ' hf'
      (apply V_s1 [22, 70] 14; simp only [nwx_0, nwx_S, nw_s1, nw_pII, nw_pA, nw_tIs, nw_vis, nw_jpx, Option.isSome_some, Option.getD_some, nw_popn, nw_rok, nw_wok, nw_isR, nw_cd, nw_at, nw_put, nw_nl0, nw_nlS, nw_no2s, nw_ft, nw_l01, nw_ak, nw_tsw, nw_flat, Value.category, List.mem_cons, List.not_mem_nil, List.length_cons, List.length_nil, or_false, false_or, or_true, true_or, and_true, true_and, and_false, false_and, if_true, if_false, Option.some.injEq, Prod.mk.injEq, and_assoc, exists_and_left, exists_eq_left, exists_eq_left', exists_const, nw_ks, nw_f4, nw_fvs, nw_some, Nat.reduceAdd, nw_sz_I, nw_kd_I, nw_ln_I, nw_rf_I, nw_L_I, nw_I_I, nw_sz_L, nw_kd_L, nw_ln_L, nw_rf_L, nw_I_L, nw_L_L, nw_ob_I, nw_ob_L, nw_obr_I, nw_obr_L, nI_add, nw_b0, nw_b1, nw_b01, not_false_eq_true, not_true_eq_false, false_implies, true_implies, Classical.not_not, nw_i10, decide_eq_false_iff_not, decide_eq_true_eq, ne_eq, Option.toList_some, Option.toList_none, List.cons_append, List.nil_append, reduceIte, Nat.reduceEqDiff, Nat.reduceLT, Nat.reduceLeDiff, Nat.reduceSub, Nat.reduceMul, reduceCtorEq, ↓nwx_aload_n, ↓nwx_bipush, ↓nwx_getfield, ↓nwx_if_icmp, ↓nwx_iload, ↓nwx_invokevirtual, dmNf_expire_0, dmNf_expire_1, rmNf_expire, hcu, hvu]; try simp (disch := omega) only [nw_b0, nw_b1, nw_ilt, nw_ile, nw_ieq, nw_icl, nw_iin, nI_add, and_true, true_and, and_false, false_and, not_false_eq_true, not_true_eq_false, false_implies, true_implies, Classical.not_not, ne_eq, reduceIte, Nat.reduceEqDiff, Nat.reduceLT, Nat.reduceLeDiff, Nat.reduceAdd, Nat.reduceSub, Nat.reduceMul, hcu, hvu])
      refine br_f (by omega) (nw_do0 (c_En_holds (k := nw_S n s 4) (i := k + 1) (by omega) v3.1 v3.2.1 v3.2.2.2.1 v3.2.2.2.2.1) ?_)
      rintro r w2 ⟨rfl, rfl⟩
      (apply V_s1 [70] 8; simp only [nwx_0, nwx_S, nw_s1, nw_pII, nw_pA, nw_tIs, nw_vis, nw_jpx, Option.isSome_some, Option.getD_some, nw_popn, nw_rok, nw_wok, nw_isR, nw_cd, nw_at, nw_put, nw_nl0, nw_nlS, nw_no2s, nw_ft, nw_l01, nw_ak, nw_tsw, nw_flat, Value.category, List.mem_cons, List.not_mem_nil, List.length_cons, List.length_nil, or_false, false_or, or_true, true_or, and_true, true_and, and_false, false_and, if_true, if_false, Option.some.injEq, Prod.mk.injEq, and_assoc, exists_and_left, exists_eq_left, exists_eq_left', exists_const, nw_ks, nw_f4, nw_fvs, nw_some, Nat.reduceAdd, nw_sz_I, nw_kd_I, nw_ln_I, nw_rf_I, nw_L_I, nw_I_I, nw_sz_L, nw_kd_L, nw_ln_L, nw_rf_L, nw_I_L, nw_L_L, nw_ob_I, nw_ob_L, nw_obr_I, nw_obr_L, nI_add, nw_b0, nw_b1, nw_b01, not_false_eq_true, not_true_eq_false, false_implies, true_implies, Classical.not_not, nw_i10, decide_eq_false_iff_not, decide_eq_true_eq, ne_eq, Option.toList_some, Option.toList_none, List.cons_append, List.nil_append, reduceIte, Nat.reduceEqDiff, Nat.reduceLT, Nat.reduceLeDiff, Nat.reduceSub, Nat.reduceMul, reduceCtorEq, ↓nwx_aload_n, ↓nwx_getfield, ↓nwx_ifCond, ↓nwx_iload, ↓nwx_invokevirtual, dmNf_expire_0, rmNf_expire, hcu, hvu, n1]; try simp (disch := omega) only [nw_b0, nw_b1, nw_ilt, nw_ile, nw_ieq, nw_icl, nw_iin, nI_add, and_true, true_and, and_false, false_and, not_false_eq_true, not_true_eq_false, false_implies, true_implies, Classical.not_not, ne_eq, reduceIte, Nat.reduceEqDiff, Nat.reduceLT, Nat.reduceLeDiff, Nat.reduceAdd, Nat.reduceSub, Nat.reduceMul, hcu, hvu, n1])
      refine ⟨fun h => ?_, fun h => ?_⟩
      · have e2 : q_exI (q_exF S s k).2 s (k + 1) = (0, (q_exF S s k).2) := if_neg h
        refine h70 w2 _ ?_ hfm ?_
        · rw [e, e2]
          exact hJu
        · rw [e, e2]
          rfl
      · obtain ⟨⟨g1, g2⟩, g3⟩ := nw_J_old hJu hs (i := k + 1) (by omega) (by omega) h
        refine nw_do0 (c_Se_takeOld (i := k + 1) _ (by omega) hOu hs) ?_
        rintro r w3 ⟨rfl, rfl⟩
        have hO1 := g1.1
        have hv1 := nw_Ok_sv hO1 hs
        unfold nw_Sv at hv1
        (apply V_s1 [] 5; simp only [nwx_0, nwx_S, nw_s1, nw_pII, nw_pA, nw_tIs, nw_vis, nw_jpx, Option.isSome_some, Option.getD_some, nw_popn, nw_rok, nw_wok, nw_isR, nw_cd, nw_at, nw_put, nw_nl0, nw_nlS, nw_no2s, nw_ft, nw_l01, nw_ak, nw_tsw, nw_flat, Value.category, List.mem_cons, List.not_mem_nil, List.length_cons, List.length_nil, or_false, false_or, or_true, true_or, and_true, true_and, and_false, false_and, if_true, if_false, Option.some.injEq, Prod.mk.injEq, and_assoc, exists_and_left, exists_eq_left, exists_eq_left', exists_const, nw_ks, nw_f4, nw_fvs, nw_some, Nat.reduceAdd, nw_sz_I, nw_kd_I, nw_ln_I, nw_rf_I, nw_L_I, nw_I_I, nw_sz_L, nw_kd_L, nw_ln_L, nw_rf_L, nw_I_L, nw_L_L, nw_ob_I, nw_ob_L, nw_obr_I, nw_obr_L, nI_add, nw_b0, nw_b1, nw_b01, not_false_eq_true, not_true_eq_false, false_implies, true_implies, Classical.not_not, nw_i10, decide_eq_false_iff_not, decide_eq_true_eq, ne_eq, Option.toList_some, Option.toList_none, List.cons_append, List.nil_append, reduceIte, Nat.reduceEqDiff, Nat.reduceLT, Nat.reduceLeDiff, Nat.reduceSub, Nat.reduceMul, reduceCtorEq, ↓nwx_aload_n, ↓nwx_iload, ↓nwx_invokevirtual, dmNf_expire_0, rmNf_expire, hv1]; try simp (disch := omega) only [nw_b0, nw_b1, nw_ilt, nw_ile, nw_ieq, nw_icl, nw_iin, nI_add, and_true, true_and, and_false, false_and, not_false_eq_true, not_true_eq_false, false_implies, true_implies, Classical.not_not, ne_eq, reduceIte, Nat.reduceEqDiff, Nat.reduceLT, Nat.reduceLeDiff, Nat.reduceAdd, Nat.reduceSub, Nat.reduceMul, hv1])
        refine nw_do0 (c_Se_hasNumber (i := k + 1) (by omega) hO1 hs) ?_
        rintro r w3 ⟨rfl, rfl⟩
        have h' : (q_exF S s k).2.1 12 (41 * s + (k + 1)) = nI 1 := h
        by_cases hh : (q_oldF (q_exF S s k).2 s (k + 1) 6).1 = true
        · have e2 : q_exI (q_exF S s k).2 s (k + 1) = (1, q_i (q_remove (q_oldF (q_exF S s k).2 s (k + 1) 6).2 s (k + 1)) 12 (41 * s + (k + 1)) (nI 2)) := by
            unfold q_exI
            rw [if_pos h', if_pos hh]
          rw [hh] at g3
          rw [show nw_has (fun g => nw_I (nw_old n s (k + 1) (nw_I w2 1 5) w2 6) (nw_S n s (10 + g)) (k + 1)) 6 = false by cases hq : nw_has (fun g => nw_I (nw_old n s (k + 1) (nw_I w2 1 5) w2 6) (nw_S n s (10 + g)) (k + 1)) 6 <;> rw [hq] at g3 <;> first | rfl | cases g3]
          (apply V_s1 [70] 7; simp only [nwx_0, nwx_S, nw_s1, nw_pII, nw_pA, nw_tIs, nw_vis, nw_jpx, Option.isSome_some, Option.getD_some, nw_popn, nw_rok, nw_wok, nw_isR, nw_cd, nw_at, nw_put, nw_nl0, nw_nlS, nw_no2s, nw_ft, nw_l01, nw_ak, nw_tsw, nw_flat, Value.category, List.mem_cons, List.not_mem_nil, List.length_cons, List.length_nil, or_false, false_or, or_true, true_or, and_true, true_and, and_false, false_and, if_true, if_false, Option.some.injEq, Prod.mk.injEq, and_assoc, exists_and_left, exists_eq_left, exists_eq_left', exists_const, nw_ks, nw_f4, nw_fvs, nw_some, Nat.reduceAdd, nw_sz_I, nw_kd_I, nw_ln_I, nw_rf_I, nw_L_I, nw_I_I, nw_sz_L, nw_kd_L, nw_ln_L, nw_rf_L, nw_I_L, nw_L_L, nw_ob_I, nw_ob_L, nw_obr_I, nw_obr_L, nI_add, nw_b0, nw_b1, nw_b01, not_false_eq_true, not_true_eq_false, false_implies, true_implies, Classical.not_not, nw_i10, decide_eq_false_iff_not, decide_eq_true_eq, ne_eq, Option.toList_some, Option.toList_none, List.cons_append, List.nil_append, reduceIte, Nat.reduceEqDiff, Nat.reduceLT, Nat.reduceLeDiff, Nat.reduceSub, Nat.reduceMul, reduceCtorEq, ↓nwx_aload_n, ↓nwx_iconst, ↓nwx_ifCond, ↓nwx_iload, ↓nwx_invokevirtual, dmNf_expire_0, rmNf_expire, nw_b_f, hv1]; try simp (disch := omega) only [nw_b0, nw_b1, nw_ilt, nw_ile, nw_ieq, nw_icl, nw_iin, nI_add, and_true, true_and, and_false, false_and, not_false_eq_true, not_true_eq_false, false_implies, true_implies, Classical.not_not, ne_eq, reduceIte, Nat.reduceEqDiff, Nat.reduceLT, Nat.reduceLeDiff, Nat.reduceAdd, Nat.reduceSub, Nat.reduceMul, nw_b_f, hv1])
          refine nw_do0 (c_Se_removeArticle (i := k + 1) _ (by omega) (fun t ht => ?_) hO1 hs) ?_
          · obtain ⟨q, q1, q2, -⟩ := (j_sv g1 hs).2.2.2.2.2.2.2 t ht
            exact ⟨q, q1, q2⟩
          · rintro r w4 ⟨rfl, hr⟩
            (apply V_s1 [70] 3; simp only [nwx_0, nwx_S, nw_s1, nw_pII, nw_pA, nw_tIs, nw_vis, nw_jpx, Option.isSome_some, Option.getD_some, nw_popn, nw_rok, nw_wok, nw_isR, nw_cd, nw_at, nw_put, nw_nl0, nw_nlS, nw_no2s, nw_ft, nw_l01, nw_ak, nw_tsw, nw_flat, Value.category, List.mem_cons, List.not_mem_nil, List.length_cons, List.length_nil, or_false, false_or, or_true, true_or, and_true, true_and, and_false, false_and, if_true, if_false, Option.some.injEq, Prod.mk.injEq, and_assoc, exists_and_left, exists_eq_left, exists_eq_left', exists_const, nw_ks, nw_f4, nw_fvs, nw_some, Nat.reduceAdd, nw_sz_I, nw_kd_I, nw_ln_I, nw_rf_I, nw_L_I, nw_I_I, nw_sz_L, nw_kd_L, nw_ln_L, nw_rf_L, nw_I_L, nw_L_L, nw_ob_I, nw_ob_L, nw_obr_I, nw_obr_L, nI_add, nw_b0, nw_b1, nw_b01, not_false_eq_true, not_true_eq_false, false_implies, true_implies, Classical.not_not, nw_i10, decide_eq_false_iff_not, decide_eq_true_eq, ne_eq, Option.toList_some, Option.toList_none, List.cons_append, List.nil_append, reduceIte, Nat.reduceEqDiff, Nat.reduceLT, Nat.reduceLeDiff, Nat.reduceSub, Nat.reduceMul, reduceCtorEq, ↓nwx_iinc, dmNf_expire_0, rmNf_expire]; try simp (disch := omega) only [nw_b0, nw_b1, nw_ilt, nw_ile, nw_ieq, nw_icl, nw_iin, nI_add, and_true, true_and, and_false, false_and, not_false_eq_true, not_true_eq_false, false_implies, true_implies, Classical.not_not, ne_eq, reduceIte, Nat.reduceEqDiff, Nat.reduceLT, Nat.reduceLeDiff, Nat.reduceAdd, Nat.reduceSub, Nat.reduceMul])
            obtain ⟨f1, f2⟩ := nw_J_rm (K := 2) g1 hs (by omega) (by omega) (by rw [q_oldF_1 _ s (k + 1) (by decide)]; exact h') (by omega) (by omega) hr
            refine h70 w4 _ ?_ (nw_fm_t hfm (nw_fm_t g2 f2)) ?_
            · rw [e, e2]
              exact f1
            · rw [e, e2]
        · have e2 : q_exI (q_exF S s k).2 s (k + 1) = (0, (q_oldF (q_exF S s k).2 s (k + 1) 6).2) := by
            unfold q_exI
            rw [if_pos h', if_neg hh]
          rw [eq_false_of_ne_true hh] at g3
          rw [show nw_has (fun g => nw_I (nw_old n s (k + 1) (nw_I w2 1 5) w2 6) (nw_S n s (10 + g)) (k + 1)) 6 = true by cases hq : nw_has (fun g => nw_I (nw_old n s (k + 1) (nw_I w2 1 5) w2 6) (nw_S n s (10 + g)) (k + 1)) 6 <;> rw [hq] at g3 <;> first | rfl | cases g3]
          (apply V_s1 [70] 7; simp only [nwx_0, nwx_S, nw_s1, nw_pII, nw_pA, nw_tIs, nw_vis, nw_jpx, Option.isSome_some, Option.getD_some, nw_popn, nw_rok, nw_wok, nw_isR, nw_cd, nw_at, nw_put, nw_nl0, nw_nlS, nw_no2s, nw_ft, nw_l01, nw_ak, nw_tsw, nw_flat, Value.category, List.mem_cons, List.not_mem_nil, List.length_cons, List.length_nil, or_false, false_or, or_true, true_or, and_true, true_and, and_false, false_and, if_true, if_false, Option.some.injEq, Prod.mk.injEq, and_assoc, exists_and_left, exists_eq_left, exists_eq_left', exists_const, nw_ks, nw_f4, nw_fvs, nw_some, Nat.reduceAdd, nw_sz_I, nw_kd_I, nw_ln_I, nw_rf_I, nw_L_I, nw_I_I, nw_sz_L, nw_kd_L, nw_ln_L, nw_rf_L, nw_I_L, nw_L_L, nw_ob_I, nw_ob_L, nw_obr_I, nw_obr_L, nI_add, nw_b0, nw_b1, nw_b01, not_false_eq_true, not_true_eq_false, false_implies, true_implies, Classical.not_not, nw_i10, decide_eq_false_iff_not, decide_eq_true_eq, ne_eq, Option.toList_some, Option.toList_none, List.cons_append, List.nil_append, reduceIte, Nat.reduceEqDiff, Nat.reduceLT, Nat.reduceLeDiff, Nat.reduceSub, Nat.reduceMul, reduceCtorEq, ↓nwx_aload_n, ↓nwx_iconst, ↓nwx_ifCond, ↓nwx_iload, ↓nwx_invokevirtual, dmNf_expire_0, rmNf_expire, nw_b_t]; try simp (disch := omega) only [nw_b0, nw_b1, nw_ilt, nw_ile, nw_ieq, nw_icl, nw_iin, nI_add, and_true, true_and, and_false, false_and, not_false_eq_true, not_true_eq_false, false_implies, true_implies, Classical.not_not, ne_eq, reduceIte, Nat.reduceEqDiff, Nat.reduceLT, Nat.reduceLeDiff, Nat.reduceAdd, Nat.reduceSub, Nat.reduceMul, nw_b_t])
          refine h70 _ _ ?_ (nw_fm_t hfm g2) ?_
          · rw [e, e2]
            exact g1
          · rw [e, e2]
            rfl
  have hsv := nw_cs hO hs
  (apply V_s1 [22] 14; simp only [nwx_0, nwx_S, nw_s1, nw_pII, nw_pA, nw_tIs, nw_vis, nw_jpx, Option.isSome_some, Option.getD_some, nw_popn, nw_rok, nw_wok, nw_isR, nw_cd, nw_at, nw_put, nw_nl0, nw_nlS, nw_no2s, nw_ft, nw_l01, nw_ak, nw_tsw, nw_flat, Value.category, List.mem_cons, List.not_mem_nil, List.length_cons, List.length_nil, or_false, false_or, or_true, true_or, and_true, true_and, and_false, false_and, if_true, if_false, Option.some.injEq, Prod.mk.injEq, and_assoc, exists_and_left, exists_eq_left, exists_eq_left', exists_const, nw_ks, nw_f4, nw_fvs, nw_some, Nat.reduceAdd, nw_sz_I, nw_kd_I, nw_ln_I, nw_rf_I, nw_L_I, nw_I_I, nw_sz_L, nw_kd_L, nw_ln_L, nw_rf_L, nw_I_L, nw_L_L, nw_ob_I, nw_ob_L, nw_obr_I, nw_obr_L, nI_add, nw_b0, nw_b1, nw_b01, not_false_eq_true, not_true_eq_false, false_implies, true_implies, Classical.not_not, nw_i10, decide_eq_false_iff_not, decide_eq_true_eq, ne_eq, Option.toList_some, Option.toList_none, List.cons_append, List.nil_append, reduceIte, Nat.reduceEqDiff, Nat.reduceLT, Nat.reduceLeDiff, Nat.reduceSub, Nat.reduceMul, reduceCtorEq, ↓nwx_aaload, ↓nwx_aload_n, ↓nwx_astore_n, ↓nwx_getfield, ↓nwx_iconst, ↓nwx_ifCond, ↓nwx_iload_n, ↓nwx_ireturn, ↓nwx_istore, ↓nwx_istore_n, dmNf_expire_0, rmNf_expire, nw_b_t, hc, hsv, hcs]; try simp (disch := omega) only [nw_b0, nw_b1, nw_ilt, nw_ile, nw_ieq, nw_icl, nw_iin, nI_add, and_true, true_and, and_false, false_and, not_false_eq_true, not_true_eq_false, false_implies, true_implies, Classical.not_not, ne_eq, reduceIte, Nat.reduceEqDiff, Nat.reduceLT, Nat.reduceLeDiff, Nat.reduceAdd, Nat.reduceSub, Nat.reduceMul, nw_b_t, hc, hsv, hcs])
  exact ⟨hs, loop 40 0 rfl _ hJ (nw_fm_r n _)⟩
end NA
