/-! NewsFlood's calls that change little: tick, write, carry, peer -/
section NT
variable {n B : Nat} {w : nw_W} {S : nw_Q}
set_option maxRecDepth 20000 in
theorem p_Nf_tick (x : Int32) (hJ : nw_J n w S B) : V mNf_tick 0 (nw_ent mNf_tick [.ref 1, .int x]) [] w 0 0 (nw_rj n B w (q_tick S x)) := by
  have hO := hJ.1
  have hc := nw_cf hO
  obtain ⟨h1, h2, h3, h4, h5⟩ := hJ
  have g5 := h3.2.2.1
  obtain ⟨p, hp⟩ : ∃ p, p = q_tick S x := ⟨_, rfl⟩
  rw [← hp, emNf_tick]
  unfold q_tick at hp
  have no : x < nI 1 ∨ nI 1000 < x → nw_rj n B w p (some (.int (S.1 3 2))) w := fun h => by
    rw [if_pos h, show S.1 3 2 + nI 0 = S.1 3 2 from Int32.add_zero _, q_i_id rfl] at hp
    rw [hp]
    exact nw_rj_q ⟨h1, h2, h3, h4, h5⟩
  (apply V_s1 [] 17; simp only [nwx_0, nwx_S, nw_s1, nw_pII, nw_pA, nw_tIs, nw_vis, nw_jpx, Option.isSome_some, Option.getD_some, nw_popn, nw_rok, nw_wok, nw_isR, nw_cd, nw_at, nw_put, nw_nl0, nw_nlS, nw_no2s, nw_ft, nw_l01, nw_ak, nw_tsw, nw_flat, Value.category, List.mem_cons, List.not_mem_nil, List.length_cons, List.length_nil, or_false, false_or, or_true, true_or, and_true, true_and, and_false, false_and, if_true, if_false, Option.some.injEq, Prod.mk.injEq, and_assoc, exists_and_left, exists_eq_left, exists_eq_left', exists_const, nw_ks, nw_f4, nw_fvs, nw_some, Nat.reduceAdd, nw_sz_I, nw_kd_I, nw_ln_I, nw_rf_I, nw_L_I, nw_I_I, nw_sz_L, nw_kd_L, nw_ln_L, nw_rf_L, nw_I_L, nw_L_L, nw_ob_I, nw_ob_L, nw_obr_I, nw_obr_L, nI_add, nw_b0, nw_b1, nw_b01, not_false_eq_true, not_true_eq_false, false_implies, true_implies, Classical.not_not, nw_i10, decide_eq_false_iff_not, decide_eq_true_eq, ne_eq, Option.toList_some, Option.toList_none, List.cons_append, List.nil_append, reduceIte, Nat.reduceEqDiff, Nat.reduceLT, Nat.reduceLeDiff, Nat.reduceSub, Nat.reduceMul, reduceCtorEq, ↓nwx_aload_n, ↓nwx_dup, ↓nwx_getfield, ↓nwx_iadd, ↓nwx_iconst, ↓nwx_if_icmp, ↓nwx_iload_n, ↓nwx_ireturn, ↓nwx_putI, ↓nwx_putR, ↓nwx_sipush, dmNf_tick_0, rmNf_tick, hc, g5, va_up_self, pk_us]; try simp (disch := omega) only [nw_b0, nw_b1, nw_ilt, nw_ile, nw_ieq, nw_icl, nw_iin, nI_add, and_true, true_and, and_false, false_and, not_false_eq_true, not_true_eq_false, false_implies, true_implies, Classical.not_not, ne_eq, reduceIte, Nat.reduceEqDiff, Nat.reduceLT, Nat.reduceLeDiff, Nat.reduceAdd, Nat.reduceSub, Nat.reduceMul, hc, g5, va_up_self, pk_us])
  refine ⟨fun h => no (Or.inl h), fun ha => ⟨fun h => no (Or.inr h), fun hb => ?_⟩⟩
  rw [if_neg (fun q => q.elim ha hb)] at hp
  rw [hp]
  refine ⟨rfl, ⟨nw_Ok_1 (w := w) rfl h1, j_ref_i h2 (Or.inl (by decide)), ?_, fun i a b => ?_, fun s hs => ?_⟩, rfl, fun a ha => ⟨?_, rfl⟩⟩
  · obtain ⟨a1, a2, a3, a4, a5⟩ := h3
    refine ⟨a1, ?_, ?_, ?_, a5⟩
    · rw [nw_I_I, va_up_self, pk_un (by decide)]
      exact a2
    · rw [nw_I_I, va_up_self, pk_us]
      rfl
    · rw [nw_I_I, va_up_self, pk_un (by decide)]
      exact a4
  · rw [nw_I_I, va_up_ne _ _ (show nw_A n + 1 + i ≠ 1 by unfold nw_A; omega)]
    exact h4 i a b
  · refine j_srv_c (h5 s hs) h1.2.1 (fun k hk => ?_) rfl (by omega) (q_at_i (q_at_r s S) (Or.inl (by decide))) (fun i _ _ q => ⟨q, rfl⟩)
    show nw_I (nw_setI _ _ _) (nw_S n s k) = _
    rw [nw_I_I, va_up_ne _ _ nw_1_ne.symm]
    rfl
  · rw [nw_I_I, va_up_ne _ _ (show a ≠ 1 by unfold nw_A at ha; omega)]
set_option maxRecDepth 20000 in
theorem p_Nf_write (a b c d e : Int32) (hJ : nw_J n w S B) : V mNf_write 0 (nw_ent mNf_write [.ref 1, .int a, .int b, .int c, .int d, .int e]) [] w 0 0 (nw_rj n B w (q_write S a b c d e)) := by
  have hO := hJ.1
  have hc := nw_cf hO
  have g4 := hJ.2.2.1.2.2.2.1
  obtain ⟨p, hp⟩ : ∃ p, p = q_write S a b c d e := ⟨_, rfl⟩
  rw [← hp, emNf_write]
  unfold q_write at hp
  have no : ¬ q_wok S a b c d e → nw_rj n B w p (some (.int (nI 0))) w := fun h => by
    rw [if_neg h] at hp
    rw [hp]
    exact nw_rj_q hJ
  (apply V_s1 [] 4; simp only [nwx_0, nwx_S, nw_s1, nw_pII, nw_pA, nw_tIs, nw_vis, nw_jpx, Option.isSome_some, Option.getD_some, nw_popn, nw_rok, nw_wok, nw_isR, nw_cd, nw_at, nw_put, nw_nl0, nw_nlS, nw_no2s, nw_ft, nw_l01, nw_ak, nw_tsw, nw_flat, Value.category, List.mem_cons, List.not_mem_nil, List.length_cons, List.length_nil, or_false, false_or, or_true, true_or, and_true, true_and, and_false, false_and, if_true, if_false, Option.some.injEq, Prod.mk.injEq, and_assoc, exists_and_left, exists_eq_left, exists_eq_left', exists_const, nw_ks, nw_f4, nw_fvs, nw_some, Nat.reduceAdd, nw_sz_I, nw_kd_I, nw_ln_I, nw_rf_I, nw_L_I, nw_I_I, nw_sz_L, nw_kd_L, nw_ln_L, nw_rf_L, nw_I_L, nw_L_L, nw_ob_I, nw_ob_L, nw_obr_I, nw_obr_L, nI_add, nw_b0, nw_b1, nw_b01, not_false_eq_true, not_true_eq_false, false_implies, true_implies, Classical.not_not, nw_i10, decide_eq_false_iff_not, decide_eq_true_eq, ne_eq, Option.toList_some, Option.toList_none, List.cons_append, List.nil_append, reduceIte, Nat.reduceEqDiff, Nat.reduceLT, Nat.reduceLeDiff, Nat.reduceSub, Nat.reduceMul, reduceCtorEq, ↓nwx_iload_n, ↓nwx_invokestatic, dmNf_write_0, rmNf_write]; try simp (disch := omega) only [nw_b0, nw_b1, nw_ilt, nw_ile, nw_ieq, nw_icl, nw_iin, nI_add, and_true, true_and, and_false, false_and, not_false_eq_true, not_true_eq_false, false_implies, true_implies, Classical.not_not, ne_eq, reduceIte, Nat.reduceEqDiff, Nat.reduceLT, Nat.reduceLeDiff, Nat.reduceAdd, Nat.reduceSub, Nat.reduceMul])
  refine nw_do0 (c_Nf_isId a) ?_
  rintro r w' ⟨rfl, rfl⟩
  by_cases hx : q_id a = true
  case neg =>
    rw [eq_false_of_ne_true hx]
    (apply V_s1 [] 51; simp only [nwx_0, nwx_S, nw_s1, nw_pII, nw_pA, nw_tIs, nw_vis, nw_jpx, Option.isSome_some, Option.getD_some, nw_popn, nw_rok, nw_wok, nw_isR, nw_cd, nw_at, nw_put, nw_nl0, nw_nlS, nw_no2s, nw_ft, nw_l01, nw_ak, nw_tsw, nw_flat, Value.category, List.mem_cons, List.not_mem_nil, List.length_cons, List.length_nil, or_false, false_or, or_true, true_or, and_true, true_and, and_false, false_and, if_true, if_false, Option.some.injEq, Prod.mk.injEq, and_assoc, exists_and_left, exists_eq_left, exists_eq_left', exists_const, nw_ks, nw_f4, nw_fvs, nw_some, Nat.reduceAdd, nw_sz_I, nw_kd_I, nw_ln_I, nw_rf_I, nw_L_I, nw_I_I, nw_sz_L, nw_kd_L, nw_ln_L, nw_rf_L, nw_I_L, nw_L_L, nw_ob_I, nw_ob_L, nw_obr_I, nw_obr_L, nI_add, nw_b0, nw_b1, nw_b01, not_false_eq_true, not_true_eq_false, false_implies, true_implies, Classical.not_not, nw_i10, decide_eq_false_iff_not, decide_eq_true_eq, ne_eq, Option.toList_some, Option.toList_none, List.cons_append, List.nil_append, reduceIte, Nat.reduceEqDiff, Nat.reduceLT, Nat.reduceLeDiff, Nat.reduceSub, Nat.reduceMul, reduceCtorEq, ↓nwx_aaload, ↓nwx_aload_n, ↓nwx_bipush, ↓nwx_getfield, ↓nwx_iconst, ↓nwx_ifCond, ↓nwx_if_icmp, ↓nwx_iload, ↓nwx_iload_n, ↓nwx_invokevirtual, ↓nwx_ireturn, ↓nwx_ishr, ↓nwx_ldc, dmNf_write_0, dmNf_write_1, rmNf_write, nw_b_f]; try simp (disch := omega) only [nw_b0, nw_b1, nw_ilt, nw_ile, nw_ieq, nw_icl, nw_iin, nI_add, and_true, true_and, and_false, false_and, not_false_eq_true, not_true_eq_false, false_implies, true_implies, Classical.not_not, ne_eq, reduceIte, Nat.reduceEqDiff, Nat.reduceLT, Nat.reduceLeDiff, Nat.reduceAdd, Nat.reduceSub, Nat.reduceMul, nw_b_f])
    exact no (fun q => hx q.1.1.1.1)
  have hx1 := hx
  obtain ⟨i, i1, i2, rfl⟩ := q_id_ok hx
  rw [hx1]
  have hci : (nI i).toNatClampNeg = i := nI_clamp (by omega)
  have ha := nw_ca' hO i2
  have hj := hJ.2.2.2.1 i i1 i2
  have e1 : nw_I w' (nw_A n + 1 + i) 1 = S.1 9 i := hj.1
  (apply V_s1 [] 51; simp only [nwx_0, nwx_S, nw_s1, nw_pII, nw_pA, nw_tIs, nw_vis, nw_jpx, Option.isSome_some, Option.getD_some, nw_popn, nw_rok, nw_wok, nw_isR, nw_cd, nw_at, nw_put, nw_nl0, nw_nlS, nw_no2s, nw_ft, nw_l01, nw_ak, nw_tsw, nw_flat, Value.category, List.mem_cons, List.not_mem_nil, List.length_cons, List.length_nil, or_false, false_or, or_true, true_or, and_true, true_and, and_false, false_and, if_true, if_false, Option.some.injEq, Prod.mk.injEq, and_assoc, exists_and_left, exists_eq_left, exists_eq_left', exists_const, nw_ks, nw_f4, nw_fvs, nw_some, Nat.reduceAdd, nw_sz_I, nw_kd_I, nw_ln_I, nw_rf_I, nw_L_I, nw_I_I, nw_sz_L, nw_kd_L, nw_ln_L, nw_rf_L, nw_I_L, nw_L_L, nw_ob_I, nw_ob_L, nw_obr_I, nw_obr_L, nI_add, nw_b0, nw_b1, nw_b01, not_false_eq_true, not_true_eq_false, false_implies, true_implies, Classical.not_not, nw_i10, decide_eq_false_iff_not, decide_eq_true_eq, ne_eq, Option.toList_some, Option.toList_none, List.cons_append, List.nil_append, reduceIte, Nat.reduceEqDiff, Nat.reduceLT, Nat.reduceLeDiff, Nat.reduceSub, Nat.reduceMul, reduceCtorEq, ↓nwx_aaload, ↓nwx_aload_n, ↓nwx_bipush, ↓nwx_getfield, ↓nwx_iconst, ↓nwx_ifCond, ↓nwx_if_icmp, ↓nwx_iload, ↓nwx_iload_n, ↓nwx_invokevirtual, ↓nwx_ireturn, ↓nwx_ishr, ↓nwx_ldc, dmNf_write_0, dmNf_write_1, rmNf_write, nw_b_t, hc, ha, hci, e1, g4]; try simp (disch := omega) only [nw_b0, nw_b1, nw_ilt, nw_ile, nw_ieq, nw_icl, nw_iin, nI_add, and_true, true_and, and_false, false_and, not_false_eq_true, not_true_eq_false, false_implies, true_implies, Classical.not_not, ne_eq, reduceIte, Nat.reduceEqDiff, Nat.reduceLT, Nat.reduceLeDiff, Nat.reduceAdd, Nat.reduceSub, Nat.reduceMul, nw_b_t, hc, ha, hci, e1, g4])
  have f01 : S.1 9 i = nI 0 ∨ S.1 9 i = nI 1 := by
    rcases hj.2.2.2.2.2 with q | q
    · exact Or.inl q.2.2
    · exact q.2.2.1
  refine ⟨by omega, ?_⟩
  refine ⟨fun h9 => ⟨fun q => no (fun k => absurd q (Int32.not_lt.mpr k.1.1.2.1)), fun hb1 => ⟨fun q => no (fun k => q k.1.1.2.2), fun hb2 => ⟨fun q => no (fun k => absurd q (Int32.not_lt.mpr k.1.2.1)), fun hc1 => ⟨fun hc2 => ⟨fun q => no (fun k => absurd q (Int32.not_lt.mpr k.2.1.1)), fun hd1 => ⟨fun q => no (fun k => absurd q (Int32.not_lt.mpr k.2.1.2)), fun hd2 => ⟨fun q => no (fun k => absurd q (Int32.not_lt.mpr k.2.2.1)), fun he1 => ⟨fun q => no (fun k => absurd q (Int32.not_lt.mpr k.2.2.2.1)), fun he2 => ⟨fun he3 => ⟨by omega, ?_⟩, fun q => no (fun k => k.2.2.2.2 q)⟩⟩⟩⟩⟩, fun q => no (fun k => q k.1.2.2)⟩⟩⟩⟩, fun q => no (fun k => q (by have := k.1.1.1.2; rwa [hci] at this))⟩
  have ok : q_wok S (nI i) b c d e := ⟨⟨⟨⟨hx1, by rw [hci]; exact h9⟩, Int32.not_lt.mp hb1, hb2⟩, Int32.not_lt.mp hc1, hc2⟩, ⟨Int32.not_lt.mp hd1, Int32.not_lt.mp hd2⟩, Int32.not_lt.mp he1, Int32.not_lt.mp he2, he3⟩
  rw [if_pos ok] at hp
  unfold q_wst at hp
  rw [hci] at hp
  refine nw_do0 (c_Ar_put b c d e ha.2) ?_
  rintro r w2 ⟨rfl, rfl⟩
  (apply V_s1 [] 4; simp only [nwx_0, nwx_S, nw_s1, nw_pII, nw_pA, nw_tIs, nw_vis, nw_jpx, Option.isSome_some, Option.getD_some, nw_popn, nw_rok, nw_wok, nw_isR, nw_cd, nw_at, nw_put, nw_nl0, nw_nlS, nw_no2s, nw_ft, nw_l01, nw_ak, nw_tsw, nw_flat, Value.category, List.mem_cons, List.not_mem_nil, List.length_cons, List.length_nil, or_false, false_or, or_true, true_or, and_true, true_and, and_false, false_and, if_true, if_false, Option.some.injEq, Prod.mk.injEq, and_assoc, exists_and_left, exists_eq_left, exists_eq_left', exists_const, nw_ks, nw_f4, nw_fvs, nw_some, Nat.reduceAdd, nw_sz_I, nw_kd_I, nw_ln_I, nw_rf_I, nw_L_I, nw_I_I, nw_sz_L, nw_kd_L, nw_ln_L, nw_rf_L, nw_I_L, nw_L_L, nw_ob_I, nw_ob_L, nw_obr_I, nw_obr_L, nI_add, nw_b0, nw_b1, nw_b01, not_false_eq_true, not_true_eq_false, false_implies, true_implies, Classical.not_not, nw_i10, decide_eq_false_iff_not, decide_eq_true_eq, ne_eq, Option.toList_some, Option.toList_none, List.cons_append, List.nil_append, reduceIte, Nat.reduceEqDiff, Nat.reduceLT, Nat.reduceLeDiff, Nat.reduceSub, Nat.reduceMul, reduceCtorEq, ↓nwx_iconst, ↓nwx_ireturn, dmNf_write_1, rmNf_write]; try simp (disch := omega) only [nw_b0, nw_b1, nw_ilt, nw_ile, nw_ieq, nw_icl, nw_iin, nI_add, and_true, true_and, and_false, false_and, not_false_eq_true, not_true_eq_false, false_implies, true_implies, Classical.not_not, ne_eq, reduceIte, Nat.reduceEqDiff, Nat.reduceLT, Nat.reduceLeDiff, Nat.reduceAdd, Nat.reduceSub, Nat.reduceMul])
  rw [hp]
  obtain ⟨h1, h2, h3, h4, h5⟩ := hJ
  obtain ⟨m, hm, rfl⟩ := nw_iof (Int32.le_trans (by decide) (Int32.not_lt.mp hd1))
  obtain ⟨k, hk, rfl⟩ := nw_iof (Int32.not_lt.mp he1)
  have m1 : 1 ≤ m := (nI_leI (by omega) (by omega)).mp (Int32.not_lt.mp hd1)
  have m8 : m ≤ 8 := (nI_leI (by omega) (by omega)).mp (Int32.not_lt.mp hd2)
  have k40 : k ≤ 40 := (nI_leI (by omega) (by omega)).mp (Int32.not_lt.mp he2)
  have ki : k ≠ i := fun q => he3 (by rw [q])
  refine ⟨rfl, ⟨nw_Ok_1 (w := w') rfl h1, j_ref_i (j_ref_i (j_ref_i (j_ref_i h2 (Or.inl (by decide))) (Or.inl (by decide))) (Or.inl (by decide))) (Or.inr (Or.inl ⟨by decide, k, k40, rfl⟩)), ?_, fun j a1 a2 => ?_, fun s hs => ?_⟩, rfl, fun a ha => ⟨?_, rfl⟩⟩
  · unfold j_glob
    rw [nw_I_I, va_up_ne _ _ (show 1 ≠ nw_A n + 1 + i by unfold nw_A; omega)]
    exact h3
  · by_cases hji : j = i
    · subst hji
      rw [nw_I_I, va_up_self]
      refine ⟨?_, ?_, ?_, ?_, ?_, Or.inr ⟨?_, ?_, f01, ⟨m, m1, m8, ?_⟩, k, k40, ki, ?_⟩⟩
      · rw [pk_un (by decide), pk_un (by decide), pk_un (by decide), pk_un (by decide), pk_un (by decide)]
        exact e1
      · rw [pk_un (by decide), pk_un (by decide), pk_un (by decide), pk_us]
        exact pk_us.symm
      · rw [pk_un (by decide), pk_un (by decide), pk_us]
        exact pk_us.symm
      · rw [pk_un (by decide), pk_us]
        exact pk_us.symm
      · rw [pk_us]
        exact pk_us.symm
      · rw [pk_un (by decide), pk_un (by decide), pk_un (by decide), pk_un (by decide), pk_us]
      · show nI 0 < upd (S.1 5) j b j
        rw [pk_us]
        exact Int32.lt_of_lt_of_le (by decide) (Int32.not_lt.mp hb1)
      · exact pk_us
      · exact pk_us
    · rw [nw_I_I, va_up_ne _ _ (show nw_A n + 1 + j ≠ nw_A n + 1 + i by omega)]
      have := h4 j a1 a2
      unfold j_art at this ⊢
      rw [show (q_i (q_i (q_i (q_i S 5 i b) 6 i c) 7 i (nI m)) 8 i (nI k)).1 5 j = S.1 5 j from pk_un hji, show (q_i (q_i (q_i (q_i S 5 i b) 6 i c) 7 i (nI m)) 8 i (nI k)).1 6 j = S.1 6 j from pk_un hji, show (q_i (q_i (q_i (q_i S 5 i b) 6 i c) 7 i (nI m)) 8 i (nI k)).1 7 j = S.1 7 j from pk_un hji, show (q_i (q_i (q_i (q_i S 5 i b) 6 i c) 7 i (nI m)) 8 i (nI k)).1 8 j = S.1 8 j from pk_un hji]
      exact this
  · refine j_srv_c (h5 s hs) h1.2.1 (fun k hk => ?_) rfl (by omega) (q_at_i (q_at_i (q_at_i (q_at_i (q_at_r s S) (Or.inl (by decide))) (Or.inl (by decide))) (Or.inl (by decide))) (Or.inl (by decide))) (fun j _ _ q => ⟨q, ?_⟩)
    · show nw_I (nw_setI _ _ _) (nw_S n s k) = _
      rw [nw_I_I, va_up_ne _ _ (show nw_S n s k ≠ nw_A n + 1 + i by rw [show nw_A n + 1 + i = nw_A n + (1 + i) by omega]; exact (nw_A_ne hs hk).symm)]
      rfl
    · have hji : j ≠ i := fun e => by
        rw [e, h9, nI_inj (by omega) (by omega)] at q
        omega
      exact pk_un hji
  · rw [nw_I_I, va_up_ne _ _ (show a ≠ nw_A n + 1 + i by omega)]
theorem j_srv_keep {s g : Nat} {c c' : Nat → Nat → Int32} {cl cl' : Nat → Int64} {S' : nw_Q} {keep : Int32} (h : j_srv n s c cl S B) (hg : g < 6) (hcl : cl' = cl) (hc : ∀ k, k < 20 + 2 * n → k ≠ 7 → c' k = c k) (h7 : c' 7 = upd (c 7) g keep) (hk : nI 0 ≤ keep) (hS : ∀ f, 5 ≤ f → f ≠ 10 → S'.1 f = S.1 f) (h10 : S'.1 10 = upd (S.1 10) (6 * s + g) keep) (h18 : S'.2 18 = S.2 18) : j_srv n s c' cl' S' (B + 1) := by
  obtain ⟨p1, p2, p3, p4, p5, p6, p7, p8⟩ := h
  have kp : j_keep S S' := fun i _ _ q => ⟨by rw [hS 9 (by omega) (by omega)]; exact q, by rw [hS 7 (by omega) (by omega)]⟩
  have s12 := hS 12 (by omega) (by omega)
  refine ⟨j_ent_c p1 ⟨hc 4 (by omega) (by omega), hc 5 (by omega) (by omega), hc 16 (by omega) (by omega), hc 17 (by omega) (by omega)⟩ (fun i _ _ => ⟨by rw [s12], by rw [hS 13 (by omega) (by omega)], by rw [hS 14 (by omega) (by omega)], by rw [hS 16 (by omega) (by omega)]⟩) kp, fun g' hg' => ?_, j_cnt_c p3 (hc 3 (by omega) (by omega)) (fun i _ _ => by rw [s12]), j_int_c p4 (hc 6 (by omega) (by omega)) ⟨by rw [hS 21 (by omega) (by omega)], by rw [hS 22 (by omega) (by omega)], by rw [hS 24 (by omega) (by omega)], by rw [hS 25 (by omega) (by omega)]⟩ (fun i _ _ => by rw [s12]) kp, j_sel_c p5 (hc 0 (by omega) (by omega)) (by omega) ⟨by rw [hS 26 (by omega) (by omega)], by rw [hS 27 (by omega) (by omega)]⟩, j_own_c p6 (hc 2 (by omega) (by omega)) ⟨by rw [hS 21 (by omega) (by omega)], by rw [hS 23 (by omega) (by omega)]⟩ (fun i _ _ => ⟨by rw [s12], by rw [hS 15 (by omega) (by omega)]⟩) (fun i _ _ _ => by rw [hS 7 (by omega) (by omega)]), j_pat_c p7 hcl (fun t _ => by rw [h18]), j_bl_c p8 (fun t ht => ⟨hc _ (by omega) (by omega), hc _ (by omega) (by omega)⟩) (fun t _ => by rw [hS 20 (by omega) (by omega)]) (fun t k _ _ => by rw [hS 19 (by omega) (by omega)]) (fun i _ _ q => by rw [s12]; exact q)⟩
  obtain ⟨a1, a2, a3, k, a4, a5, a6⟩ := p2 g' hg'
  rw [h7, hc 8 (by omega) (by omega), hc (10 + g') (by omega) (by omega), h10, hS 11 (by omega) (by omega), hS 17 (by omega) (by omega), s12]
  refine ⟨?_, a2, ?_, k, by omega, a5, a6⟩
  · by_cases hgg : g' = g
    · rw [hgg, pk_us, pk_us]
    · rw [pk_un hgg, pk_un (by omega)]
      exact a1
  · by_cases hgg : g' = g
    · rw [hgg, pk_us]
      exact hk
    · rw [pk_un (by omega)]
      exact a3
theorem q_l_id {S : nw_Q} {f k : Nat} {x : Int64} (h : x = S.2 f k) : q_l S f k x = S := by
  refine Prod.ext rfl (funext fun g => ?_)
  rw [q_l_2]
  by_cases hg : g = f
  · rw [if_pos hg, hg]
    funext j
    by_cases hj : j = k
    · rw [hj]
      exact (if_pos rfl).trans h
    · exact if_neg hj
  · rw [if_neg hg]
set_option maxRecDepth 20000 in
theorem p_Nf_carry (x : Int32) (name : Int64) (keep : Int32) (hJ : nw_J n w S B) : V mNf_carry 0 (nw_ent mNf_carry [.ref 1, .int x, .long name, .int keep]) [] w 0 0 (nw_rj n B w (q_carry S x name keep)) := by
  have hO := hJ.1
  have hn4 := hO.2.1
  have hc := nw_cf hO
  obtain ⟨p, hp⟩ : ∃ p, p = q_carry S x name keep := ⟨_, rfl⟩
  rw [← hp, emNf_carry]
  unfold q_carry at hp
  rw [q_srv_k (j_g3 hJ)] at hp
  have no : ¬ (((k_srv n x = true ∧ nw_txtB false name = true) ∧ nI 1 ≤ keep ∧ keep ≤ nI 1000) ∧ ¬ q_grp S name = 6) → nw_rj n B w p (some (.int (-1))) w := fun h => by
    rw [if_neg h] at hp
    rw [hp]
    exact nw_rj_q hJ
  (apply V_s1 [] 5; simp only [nwx_0, nwx_S, nw_s1, nw_pII, nw_pA, nw_tIs, nw_vis, nw_jpx, Option.isSome_some, Option.getD_some, nw_popn, nw_rok, nw_wok, nw_isR, nw_cd, nw_at, nw_put, nw_nl0, nw_nlS, nw_no2s, nw_ft, nw_l01, nw_ak, nw_tsw, nw_flat, Value.category, List.mem_cons, List.not_mem_nil, List.length_cons, List.length_nil, or_false, false_or, or_true, true_or, and_true, true_and, and_false, false_and, if_true, if_false, Option.some.injEq, Prod.mk.injEq, and_assoc, exists_and_left, exists_eq_left, exists_eq_left', exists_const, nw_ks, nw_f4, nw_fvs, nw_some, Nat.reduceAdd, nw_sz_I, nw_kd_I, nw_ln_I, nw_rf_I, nw_L_I, nw_I_I, nw_sz_L, nw_kd_L, nw_ln_L, nw_rf_L, nw_I_L, nw_L_L, nw_ob_I, nw_ob_L, nw_obr_I, nw_obr_L, nI_add, nw_b0, nw_b1, nw_b01, not_false_eq_true, not_true_eq_false, false_implies, true_implies, Classical.not_not, nw_i10, decide_eq_false_iff_not, decide_eq_true_eq, ne_eq, Option.toList_some, Option.toList_none, List.cons_append, List.nil_append, reduceIte, Nat.reduceEqDiff, Nat.reduceLT, Nat.reduceLeDiff, Nat.reduceSub, Nat.reduceMul, reduceCtorEq, ↓nwx_aload_n, ↓nwx_iload_n, ↓nwx_invokevirtual, dmNf_carry_0, rmNf_carry, hc]; try simp (disch := omega) only [nw_b0, nw_b1, nw_ilt, nw_ile, nw_ieq, nw_icl, nw_iin, nI_add, and_true, true_and, and_false, false_and, not_false_eq_true, not_true_eq_false, false_implies, true_implies, Classical.not_not, ne_eq, reduceIte, Nat.reduceEqDiff, Nat.reduceLT, Nat.reduceLeDiff, Nat.reduceAdd, Nat.reduceSub, Nat.reduceMul, hc])
  refine nw_do0 (c_Nf_isServer x hO) ?_
  rintro r w' ⟨rfl, rfl⟩
  by_cases hx : k_srv n x = true
  case neg =>
    rw [eq_false_of_ne_true hx]
    (apply V_s1 [31] 7; simp only [nwx_0, nwx_S, nw_s1, nw_pII, nw_pA, nw_tIs, nw_vis, nw_jpx, Option.isSome_some, Option.getD_some, nw_popn, nw_rok, nw_wok, nw_isR, nw_cd, nw_at, nw_put, nw_nl0, nw_nlS, nw_no2s, nw_ft, nw_l01, nw_ak, nw_tsw, nw_flat, Value.category, List.mem_cons, List.not_mem_nil, List.length_cons, List.length_nil, or_false, false_or, or_true, true_or, and_true, true_and, and_false, false_and, if_true, if_false, Option.some.injEq, Prod.mk.injEq, and_assoc, exists_and_left, exists_eq_left, exists_eq_left', exists_const, nw_ks, nw_f4, nw_fvs, nw_some, Nat.reduceAdd, nw_sz_I, nw_kd_I, nw_ln_I, nw_rf_I, nw_L_I, nw_I_I, nw_sz_L, nw_kd_L, nw_ln_L, nw_rf_L, nw_I_L, nw_L_L, nw_ob_I, nw_ob_L, nw_obr_I, nw_obr_L, nI_add, nw_b0, nw_b1, nw_b01, not_false_eq_true, not_true_eq_false, false_implies, true_implies, Classical.not_not, nw_i10, decide_eq_false_iff_not, decide_eq_true_eq, ne_eq, Option.toList_some, Option.toList_none, List.cons_append, List.nil_append, reduceIte, Nat.reduceEqDiff, Nat.reduceLT, Nat.reduceLeDiff, Nat.reduceSub, Nat.reduceMul, reduceCtorEq, ↓nwx_iconst, ↓nwx_ifCond, ↓nwx_invokestatic, ↓nwx_ireturn, ↓nwx_lload_n, dmNf_carry_0, rmNf_carry, nw_b_f]; try simp (disch := omega) only [nw_b0, nw_b1, nw_ilt, nw_ile, nw_ieq, nw_icl, nw_iin, nI_add, and_true, true_and, and_false, false_and, not_false_eq_true, not_true_eq_false, false_implies, true_implies, Classical.not_not, ne_eq, reduceIte, Nat.reduceEqDiff, Nat.reduceLT, Nat.reduceLeDiff, Nat.reduceAdd, Nat.reduceSub, Nat.reduceMul, nw_b_f])
    exact no (fun q => hx q.1.1.1)
  have hx1 := hx
  obtain ⟨s, hs, rfl⟩ := k_srv_ok hn4 hx
  rw [hx1]
  (apply V_s1 [31] 7; simp only [nwx_0, nwx_S, nw_s1, nw_pII, nw_pA, nw_tIs, nw_vis, nw_jpx, Option.isSome_some, Option.getD_some, nw_popn, nw_rok, nw_wok, nw_isR, nw_cd, nw_at, nw_put, nw_nl0, nw_nlS, nw_no2s, nw_ft, nw_l01, nw_ak, nw_tsw, nw_flat, Value.category, List.mem_cons, List.not_mem_nil, List.length_cons, List.length_nil, or_false, false_or, or_true, true_or, and_true, true_and, and_false, false_and, if_true, if_false, Option.some.injEq, Prod.mk.injEq, and_assoc, exists_and_left, exists_eq_left, exists_eq_left', exists_const, nw_ks, nw_f4, nw_fvs, nw_some, Nat.reduceAdd, nw_sz_I, nw_kd_I, nw_ln_I, nw_rf_I, nw_L_I, nw_I_I, nw_sz_L, nw_kd_L, nw_ln_L, nw_rf_L, nw_I_L, nw_L_L, nw_ob_I, nw_ob_L, nw_obr_I, nw_obr_L, nI_add, nw_b0, nw_b1, nw_b01, not_false_eq_true, not_true_eq_false, false_implies, true_implies, Classical.not_not, nw_i10, decide_eq_false_iff_not, decide_eq_true_eq, ne_eq, Option.toList_some, Option.toList_none, List.cons_append, List.nil_append, reduceIte, Nat.reduceEqDiff, Nat.reduceLT, Nat.reduceLeDiff, Nat.reduceSub, Nat.reduceMul, reduceCtorEq, ↓nwx_iconst, ↓nwx_ifCond, ↓nwx_invokestatic, ↓nwx_ireturn, ↓nwx_lload_n, dmNf_carry_0, rmNf_carry, nw_b_t]; try simp (disch := omega) only [nw_b0, nw_b1, nw_ilt, nw_ile, nw_ieq, nw_icl, nw_iin, nI_add, and_true, true_and, and_false, false_and, not_false_eq_true, not_true_eq_false, false_implies, true_implies, Classical.not_not, ne_eq, reduceIte, Nat.reduceEqDiff, Nat.reduceLT, Nat.reduceLeDiff, Nat.reduceAdd, Nat.reduceSub, Nat.reduceMul, nw_b_t])
  refine nw_do0 (c_Te_isName name) ?_
  rintro r w' ⟨rfl, rfl⟩
  by_cases hn : nw_txtB false name = true
  case neg =>
    rw [eq_false_of_ne_true hn]
    (apply V_s1 [31] 11; simp only [nwx_0, nwx_S, nw_s1, nw_pII, nw_pA, nw_tIs, nw_vis, nw_jpx, Option.isSome_some, Option.getD_some, nw_popn, nw_rok, nw_wok, nw_isR, nw_cd, nw_at, nw_put, nw_nl0, nw_nlS, nw_no2s, nw_ft, nw_l01, nw_ak, nw_tsw, nw_flat, Value.category, List.mem_cons, List.not_mem_nil, List.length_cons, List.length_nil, or_false, false_or, or_true, true_or, and_true, true_and, and_false, false_and, if_true, if_false, Option.some.injEq, Prod.mk.injEq, and_assoc, exists_and_left, exists_eq_left, exists_eq_left', exists_const, nw_ks, nw_f4, nw_fvs, nw_some, Nat.reduceAdd, nw_sz_I, nw_kd_I, nw_ln_I, nw_rf_I, nw_L_I, nw_I_I, nw_sz_L, nw_kd_L, nw_ln_L, nw_rf_L, nw_I_L, nw_L_L, nw_ob_I, nw_ob_L, nw_obr_I, nw_obr_L, nI_add, nw_b0, nw_b1, nw_b01, not_false_eq_true, not_true_eq_false, false_implies, true_implies, Classical.not_not, nw_i10, decide_eq_false_iff_not, decide_eq_true_eq, ne_eq, Option.toList_some, Option.toList_none, List.cons_append, List.nil_append, reduceIte, Nat.reduceEqDiff, Nat.reduceLT, Nat.reduceLeDiff, Nat.reduceSub, Nat.reduceMul, reduceCtorEq, ↓nwx_iconst, ↓nwx_ifCond, ↓nwx_if_icmp, ↓nwx_iload, ↓nwx_ireturn, ↓nwx_sipush, dmNf_carry_0, rmNf_carry, nw_b_f]; try simp (disch := omega) only [nw_b0, nw_b1, nw_ilt, nw_ile, nw_ieq, nw_icl, nw_iin, nI_add, and_true, true_and, and_false, false_and, not_false_eq_true, not_true_eq_false, false_implies, true_implies, Classical.not_not, ne_eq, reduceIte, Nat.reduceEqDiff, Nat.reduceLT, Nat.reduceLeDiff, Nat.reduceAdd, Nat.reduceSub, Nat.reduceMul, nw_b_f])
    exact no (fun q => hn q.1.1.2)
  rw [hn]
  (apply V_s1 [31] 11; simp only [nwx_0, nwx_S, nw_s1, nw_pII, nw_pA, nw_tIs, nw_vis, nw_jpx, Option.isSome_some, Option.getD_some, nw_popn, nw_rok, nw_wok, nw_isR, nw_cd, nw_at, nw_put, nw_nl0, nw_nlS, nw_no2s, nw_ft, nw_l01, nw_ak, nw_tsw, nw_flat, Value.category, List.mem_cons, List.not_mem_nil, List.length_cons, List.length_nil, or_false, false_or, or_true, true_or, and_true, true_and, and_false, false_and, if_true, if_false, Option.some.injEq, Prod.mk.injEq, and_assoc, exists_and_left, exists_eq_left, exists_eq_left', exists_const, nw_ks, nw_f4, nw_fvs, nw_some, Nat.reduceAdd, nw_sz_I, nw_kd_I, nw_ln_I, nw_rf_I, nw_L_I, nw_I_I, nw_sz_L, nw_kd_L, nw_ln_L, nw_rf_L, nw_I_L, nw_L_L, nw_ob_I, nw_ob_L, nw_obr_I, nw_obr_L, nI_add, nw_b0, nw_b1, nw_b01, not_false_eq_true, not_true_eq_false, false_implies, true_implies, Classical.not_not, nw_i10, decide_eq_false_iff_not, decide_eq_true_eq, ne_eq, Option.toList_some, Option.toList_none, List.cons_append, List.nil_append, reduceIte, Nat.reduceEqDiff, Nat.reduceLT, Nat.reduceLeDiff, Nat.reduceSub, Nat.reduceMul, reduceCtorEq, ↓nwx_iconst, ↓nwx_ifCond, ↓nwx_if_icmp, ↓nwx_iload, ↓nwx_ireturn, ↓nwx_sipush, dmNf_carry_0, rmNf_carry, nw_b_t]; try simp (disch := omega) only [nw_b0, nw_b1, nw_ilt, nw_ile, nw_ieq, nw_icl, nw_iin, nI_add, and_true, true_and, and_false, false_and, not_false_eq_true, not_true_eq_false, false_implies, true_implies, Classical.not_not, ne_eq, reduceIte, Nat.reduceEqDiff, Nat.reduceLT, Nat.reduceLeDiff, Nat.reduceAdd, Nat.reduceSub, Nat.reduceMul, nw_b_t])
  refine ⟨fun q => no (fun k => absurd q (Int32.not_lt.mpr k.1.2.1)), fun hk1 => ⟨fun hk2 => ?_, fun q => no (fun k => q k.1.2.2)⟩⟩
  obtain ⟨g0, hg0⟩ : ∃ g0, g0 = q_grp S name := ⟨_, rfl⟩
  obtain ⟨-, -, -, e4, G, hG, e5, e6⟩ := hJ.2.2.1
  have ek : k_grpF (nw_L w' (nw_A n + 42)) name G 6 0 = g0 := by
    rw [hg0]
    unfold q_grp
    rw [e5, nI_clamp (by omega)]
    exact j_grpF (fun g hg => (e6 g hg).1) 6 0
  obtain ⟨k1, k2⟩ := k_grpF_ok (f := nw_L w' (nw_A n + 42)) (name := name) hG 6 0 rfl (by omega)
  rw [ek] at k1 k2
  have hgG := e4.trans e5
  (apply V_s1 [] 5; simp only [nwx_0, nwx_S, nw_s1, nw_pII, nw_pA, nw_tIs, nw_vis, nw_jpx, Option.isSome_some, Option.getD_some, nw_popn, nw_rok, nw_wok, nw_isR, nw_cd, nw_at, nw_put, nw_nl0, nw_nlS, nw_no2s, nw_ft, nw_l01, nw_ak, nw_tsw, nw_flat, Value.category, List.mem_cons, List.not_mem_nil, List.length_cons, List.length_nil, or_false, false_or, or_true, true_or, and_true, true_and, and_false, false_and, if_true, if_false, Option.some.injEq, Prod.mk.injEq, and_assoc, exists_and_left, exists_eq_left, exists_eq_left', exists_const, nw_ks, nw_f4, nw_fvs, nw_some, Nat.reduceAdd, nw_sz_I, nw_kd_I, nw_ln_I, nw_rf_I, nw_L_I, nw_I_I, nw_sz_L, nw_kd_L, nw_ln_L, nw_rf_L, nw_I_L, nw_L_L, nw_ob_I, nw_ob_L, nw_obr_I, nw_obr_L, nI_add, nw_b0, nw_b1, nw_b01, not_false_eq_true, not_true_eq_false, false_implies, true_implies, Classical.not_not, nw_i10, decide_eq_false_iff_not, decide_eq_true_eq, ne_eq, Option.toList_some, Option.toList_none, List.cons_append, List.nil_append, reduceIte, Nat.reduceEqDiff, Nat.reduceLT, Nat.reduceLeDiff, Nat.reduceSub, Nat.reduceMul, reduceCtorEq, ↓nwx_aload_n, ↓nwx_invokevirtual, ↓nwx_lload_n, dmNf_carry_0, rmNf_carry, hc]; try simp (disch := omega) only [nw_b0, nw_b1, nw_ilt, nw_ile, nw_ieq, nw_icl, nw_iin, nI_add, and_true, true_and, and_false, false_and, not_false_eq_true, not_true_eq_false, false_implies, true_implies, Classical.not_not, ne_eq, reduceIte, Nat.reduceEqDiff, Nat.reduceLT, Nat.reduceLeDiff, Nat.reduceAdd, Nat.reduceSub, Nat.reduceMul, hc])
  refine nw_do0 (c_Nf_placeOfGroup name hG hgG hO) ?_
  rintro r w' ⟨rfl, rfl⟩
  rw [ek]
  have hcs : (nI s).toNatClampNeg = s := nI_clamp (by omega)
  have hcg : (nI g0).toNatClampNeg = g0 := nI_clamp (by omega)
  have hsv := nw_cs hO hs
  have hv := nw_Ok_sv hO hs
  unfold nw_Sv at hv
  rw [← hg0] at no hp
  rw [hcs] at hp
  (apply V_s1 [74] 23; simp only [nwx_0, nwx_S, nw_s1, nw_pII, nw_pA, nw_tIs, nw_vis, nw_jpx, Option.isSome_some, Option.getD_some, nw_popn, nw_rok, nw_wok, nw_isR, nw_cd, nw_at, nw_put, nw_nl0, nw_nlS, nw_no2s, nw_ft, nw_l01, nw_ak, nw_tsw, nw_flat, Value.category, List.mem_cons, List.not_mem_nil, List.length_cons, List.length_nil, or_false, false_or, or_true, true_or, and_true, true_and, and_false, false_and, if_true, if_false, Option.some.injEq, Prod.mk.injEq, and_assoc, exists_and_left, exists_eq_left, exists_eq_left', exists_const, nw_ks, nw_f4, nw_fvs, nw_some, Nat.reduceAdd, nw_sz_I, nw_kd_I, nw_ln_I, nw_rf_I, nw_L_I, nw_I_I, nw_sz_L, nw_kd_L, nw_ln_L, nw_rf_L, nw_I_L, nw_L_L, nw_ob_I, nw_ob_L, nw_obr_I, nw_obr_L, nI_add, nw_b0, nw_b1, nw_b01, not_false_eq_true, not_true_eq_false, false_implies, true_implies, Classical.not_not, nw_i10, decide_eq_false_iff_not, decide_eq_true_eq, ne_eq, Option.toList_some, Option.toList_none, List.cons_append, List.nil_append, reduceIte, Nat.reduceEqDiff, Nat.reduceLT, Nat.reduceLeDiff, Nat.reduceSub, Nat.reduceMul, reduceCtorEq, ↓nwx_aload_n, ↓nwx_bipush, ↓nwx_dup, ↓nwx_getfield, ↓nwx_iadd, ↓nwx_iconst, ↓nwx_if_icmp, ↓nwx_iload, ↓nwx_ireturn, ↓nwx_istore, ↓nwx_lastore, ↓nwx_lload_n, ↓nwx_putI, ↓nwx_putR, dmNf_carry_0, rmNf_carry, hc, hgG, hcg]; try simp (disch := omega) only [nw_b0, nw_b1, nw_ilt, nw_ile, nw_ieq, nw_icl, nw_iin, nI_add, and_true, true_and, and_false, false_and, not_false_eq_true, not_true_eq_false, false_implies, true_implies, Classical.not_not, ne_eq, reduceIte, Nat.reduceEqDiff, Nat.reduceLT, Nat.reduceLeDiff, Nat.reduceAdd, Nat.reduceSub, Nat.reduceMul, hc, hgG, hcg])
  refine ⟨fun g6 => ?_, fun g6 => no (fun k => k.2 (by omega))⟩
  rw [if_pos ⟨⟨⟨hx1, hn⟩, Int32.not_lt.mp hk1, hk2⟩, by omega⟩] at hp
  have hk0 : nI 0 ≤ keep := Int32.le_trans (by decide) (Int32.not_lt.mp hk1)
  have nG := j_sv hJ hs
  refine ⟨fun hgG' => ?_, fun hgG' => ⟨by omega, ?_⟩⟩
  · -- a group that is there
    rw [e5, if_neg (by rw [nI_inj (by omega) (by omega)]; omega), ← e5, q_l_id ((k2 (by omega)).symm.trans (e6 g0 (by omega)).1), q_i_id (f := 3) (k := 3) rfl] at hp
    (apply V_s1 [] 12; simp only [nwx_0, nwx_S, nw_s1, nw_pII, nw_pA, nw_tIs, nw_vis, nw_jpx, Option.isSome_some, Option.getD_some, nw_popn, nw_rok, nw_wok, nw_isR, nw_cd, nw_at, nw_put, nw_nl0, nw_nlS, nw_no2s, nw_ft, nw_l01, nw_ak, nw_tsw, nw_flat, Value.category, List.mem_cons, List.not_mem_nil, List.length_cons, List.length_nil, or_false, false_or, or_true, true_or, and_true, true_and, and_false, false_and, if_true, if_false, Option.some.injEq, Prod.mk.injEq, and_assoc, exists_and_left, exists_eq_left, exists_eq_left', exists_const, nw_ks, nw_f4, nw_fvs, nw_some, Nat.reduceAdd, nw_sz_I, nw_kd_I, nw_ln_I, nw_rf_I, nw_L_I, nw_I_I, nw_sz_L, nw_kd_L, nw_ln_L, nw_rf_L, nw_I_L, nw_L_L, nw_ob_I, nw_ob_L, nw_obr_I, nw_obr_L, nI_add, nw_b0, nw_b1, nw_b01, not_false_eq_true, not_true_eq_false, false_implies, true_implies, Classical.not_not, nw_i10, decide_eq_false_iff_not, decide_eq_true_eq, ne_eq, Option.toList_some, Option.toList_none, List.cons_append, List.nil_append, reduceIte, Nat.reduceEqDiff, Nat.reduceLT, Nat.reduceLeDiff, Nat.reduceSub, Nat.reduceMul, reduceCtorEq, ↓nwx_aaload, ↓nwx_aload_n, ↓nwx_getfield, ↓nwx_iastore, ↓nwx_iload, ↓nwx_iload_n, ↓nwx_ireturn, dmNf_carry_0, dmNf_carry_1, rmNf_carry, hc, hsv, hv, hcs, hcg]; try simp (disch := omega) only [nw_b0, nw_b1, nw_ilt, nw_ile, nw_ieq, nw_icl, nw_iin, nI_add, and_true, true_and, and_false, false_and, not_false_eq_true, not_true_eq_false, false_implies, true_implies, Classical.not_not, ne_eq, reduceIte, Nat.reduceEqDiff, Nat.reduceLT, Nat.reduceLeDiff, Nat.reduceAdd, Nat.reduceSub, Nat.reduceMul, hc, hsv, hv, hcs, hcg])
    rw [hp]
    refine ⟨hs, g6, rfl, ?_⟩
    refine nw_J_s hJ hs (nw_chg_I (nw_chg_r n s w') (by omega) _) (j_ref_i hJ.2.1 (Or.inl (by decide))) rfl rfl ⟨rfl, rfl, rfl, rfl, rfl⟩ (fun t ht hts => q_at_i (q_at_r t S) (by omega)) ?_
    refine j_srv_keep nG g6 rfl (fun k hk h7 => ?_) ?_ hk0 (fun f hf h10 => ?_) rfl rfl
    · exact nw_S_Ine h7
    · exact nw_S_Ieq
    · rw [q_i_1, if_neg h10]
  · -- a new group
    have hgg : g0 = G := by omega
    rw [e5, if_pos (by rw [hgg]), nI_add] at hp
    (apply V_s1 [] 12; simp only [nwx_0, nwx_S, nw_s1, nw_pII, nw_pA, nw_tIs, nw_vis, nw_jpx, Option.isSome_some, Option.getD_some, nw_popn, nw_rok, nw_wok, nw_isR, nw_cd, nw_at, nw_put, nw_nl0, nw_nlS, nw_no2s, nw_ft, nw_l01, nw_ak, nw_tsw, nw_flat, Value.category, List.mem_cons, List.not_mem_nil, List.length_cons, List.length_nil, or_false, false_or, or_true, true_or, and_true, true_and, and_false, false_and, if_true, if_false, Option.some.injEq, Prod.mk.injEq, and_assoc, exists_and_left, exists_eq_left, exists_eq_left', exists_const, nw_ks, nw_f4, nw_fvs, nw_some, Nat.reduceAdd, nw_sz_I, nw_kd_I, nw_ln_I, nw_rf_I, nw_L_I, nw_I_I, nw_sz_L, nw_kd_L, nw_ln_L, nw_rf_L, nw_I_L, nw_L_L, nw_ob_I, nw_ob_L, nw_obr_I, nw_obr_L, nI_add, nw_b0, nw_b1, nw_b01, not_false_eq_true, not_true_eq_false, false_implies, true_implies, Classical.not_not, nw_i10, decide_eq_false_iff_not, decide_eq_true_eq, ne_eq, Option.toList_some, Option.toList_none, List.cons_append, List.nil_append, reduceIte, Nat.reduceEqDiff, Nat.reduceLT, Nat.reduceLeDiff, Nat.reduceSub, Nat.reduceMul, reduceCtorEq, ↓nwx_aaload, ↓nwx_aload_n, ↓nwx_getfield, ↓nwx_iastore, ↓nwx_iload, ↓nwx_iload_n, ↓nwx_ireturn, dmNf_carry_0, dmNf_carry_1, rmNf_carry, hc, hsv, hv, hcs, hcg]; try simp (disch := omega) only [nw_b0, nw_b1, nw_ilt, nw_ile, nw_ieq, nw_icl, nw_iin, nI_add, and_true, true_and, and_false, false_and, not_false_eq_true, not_true_eq_false, false_implies, true_implies, Classical.not_not, ne_eq, reduceIte, Nat.reduceEqDiff, Nat.reduceLT, Nat.reduceLeDiff, Nat.reduceAdd, Nat.reduceSub, Nat.reduceMul, hc, hsv, hv, hcs, hcg])
    rw [hp]
    obtain ⟨h1, h2, h3, h4, h5⟩ := hJ
    have n1 : ∀ k, nw_S n s k ≠ 1 := fun k => nw_1_ne.symm
    have hSs : ∀ t k, nw_I (nw_setI (nw_setL w' (nw_A n + 42) (vp_updL (nw_L w' (nw_A n + 42)) g0 name)) 1 (upd (nw_I w' 1) 4 (nI (G + 1)))) (nw_S n t k) = nw_I w' (nw_S n t k) := fun t k => by
      rw [nw_I_I, va_up_ne _ _ nw_1_ne.symm]
      rfl
    refine ⟨hs, g6, rfl, ⟨nw_Ok_1 (w := w') rfl h1, j_ref_i (j_ref_i h2 (Or.inl (by decide))) (Or.inl (by decide)), ?_, fun i a b => ?_, fun t ht => ?_⟩, rfl, fun a ha => ⟨?_, ?_⟩⟩
    · obtain ⟨a1, a2, a3, a4, -⟩ := h3
      have e1 : ∀ f, nw_I (nw_setI (nw_setI (nw_setL w' (nw_A n + 42) (vp_updL (nw_L w' (nw_A n + 42)) g0 name)) 1 (upd (nw_I w' 1) 4 (nI (G + 1)))) (nw_S n s 7) f) 1 = upd (nw_I w' 1) 4 (nI (G + 1)) := fun f => by
        rw [nw_I_I, va_up_ne _ _ nw_1_ne, nw_I_I, va_up_self]
      unfold j_glob
      rw [e1]
      refine ⟨a1, ?_, ?_, ?_, G + 1, by omega, ?_, fun g hg => ?_⟩
      · rw [pk_un (by decide)]; exact a2
      · rw [pk_un (by decide)]; exact a3
      · rw [pk_us]
        show nI (G + 1) = upd (S.1 3) 3 (nI (G + 1)) 3
        exact pk_us.symm
      · show upd (S.1 3) 3 (nI (G + 1)) 3 = _
        exact pk_us
      · have e7 : nw_L (nw_setI (nw_setI (nw_setL w' (nw_A n + 42) (vp_updL (nw_L w' (nw_A n + 42)) g0 name)) 1 (upd (nw_I w' 1) 4 (nI (G + 1)))) (nw_S n s 7) (upd (nw_I w' (nw_S n s 7)) g0 keep)) (nw_A n + 42) = vp_updL (nw_L w' (nw_A n + 42)) g0 name := by
          rw [nw_L_I, nw_L_I, nw_L_L, va_up_self]
        show nw_L _ (nw_A n + 42) g = vp_updL (S.2 4) g0 name g ∧ nw_txt false (vp_updL (S.2 4) g0 name g)
        by_cases hgg2 : g = g0
        · have e8 : vp_updL (S.2 4) g0 name g = name := if_pos hgg2
          rw [e8]
          refine ⟨?_, (nw_txtB_ok false name).mp hn⟩
          exact (congrFun e7 g).trans (if_pos hgg2)
        · have e8 : vp_updL (S.2 4) g0 name g = S.2 4 g := if_neg hgg2
          rw [e8]
          exact ⟨((congrFun e7 g).trans (if_neg hgg2)).trans (e6 g (by omega)).1, (e6 g (by omega)).2⟩
    · rw [nw_I_I, va_up_ne _ _ (show nw_A n + 1 + i ≠ nw_S n s 7 by rw [show nw_A n + 1 + i = nw_A n + (1 + i) by omega]; exact nw_A_ne hs (by omega)), nw_I_I, va_up_ne _ _ (show nw_A n + 1 + i ≠ 1 by unfold nw_A; omega)]
      exact h4 i a b
    · have eL : ∀ f, nw_L (nw_setI (nw_setI (nw_setL w' (nw_A n + 42) (vp_updL (nw_L w' (nw_A n + 42)) g0 name)) 1 (upd (nw_I w' 1) 4 (nI (G + 1)))) (nw_S n s 7) f) (nw_S n t 18) = nw_L w' (nw_S n t 18) := fun f => by
        rw [nw_L_I, nw_L_I, nw_L_L, va_up_ne _ _ (nw_A_ne ht (by omega)).symm]
      by_cases hts : t = s
      · subst hts
        refine j_srv_keep nG g6 (eL _) (fun k hk h7 => ?_) ?_ hk0 (fun f hf h10 => ?_) rfl rfl
        · exact (nw_S_Ine h7).trans (hSs t k)
        · exact nw_S_Ieq
        · rw [q_i_1, if_neg h10, q_i_1, if_neg (by omega)]
          rfl
      · refine j_srv_c (h5 t ht) hn4 (fun k hk => ?_) (eL _) (by omega) (q_at_i (q_at_i (q_at_l (q_at_r t S) (by omega)) (by omega)) (by omega)) (fun i _ _ q => ⟨q, rfl⟩)
        show nw_I (nw_setI _ _ _) (nw_S n t k) = _
        rw [nw_I_I, va_up_ne _ _ (nw_S_ne hts hk (by omega)), hSs t k]
        rfl
    · have h7 := nw_S_lt (n := n) (s := s) (k := 7) hs (by omega)
      have h8 := nw_S_3 n s 7
      rw [nw_I_I, va_up_ne _ _ (show a ≠ nw_S n s 7 by omega), nw_I_I, va_up_ne _ _ (show a ≠ 1 by unfold nw_A at ha; omega)]
      rfl
    · rw [nw_L_I, nw_L_I, nw_L_L, va_up_ne _ _ (show a ≠ nw_A n + 42 by unfold nw_A at ha ⊢; omega)]
set_option maxRecDepth 20000 in
theorem p_Nf_peer (x y : Int32) (pt : Int64) (hJ : nw_J n w S B) : V mNf_peer 0 (nw_ent mNf_peer [.ref 1, .int x, .int y, .long pt]) [] w 0 0 (nw_rj n B w (q_peer S x y pt)) := by
  have hO := hJ.1
  have hn4 := hO.2.1
  have hc := nw_cf hO
  obtain ⟨p, hp⟩ : ∃ p, p = q_peer S x y pt := ⟨_, rfl⟩
  rw [← hp, emNf_peer]
  unfold q_peer at hp
  rw [q_srv_k (j_g3 hJ), q_srv_k (j_g3 hJ)] at hp
  have no : ¬ (((k_srv n x = true ∧ k_srv n y = true) ∧ ¬ x = y) ∧ (pt = 0 ∨ nw_txtB true pt = true)) → nw_rj n B w p (some (.int (nI 0))) w := fun h => by
    rw [if_neg h] at hp
    rw [hp]
    exact nw_rj_q hJ
  (apply V_s1 [] 5; simp only [nwx_0, nwx_S, nw_s1, nw_pII, nw_pA, nw_tIs, nw_vis, nw_jpx, Option.isSome_some, Option.getD_some, nw_popn, nw_rok, nw_wok, nw_isR, nw_cd, nw_at, nw_put, nw_nl0, nw_nlS, nw_no2s, nw_ft, nw_l01, nw_ak, nw_tsw, nw_flat, Value.category, List.mem_cons, List.not_mem_nil, List.length_cons, List.length_nil, or_false, false_or, or_true, true_or, and_true, true_and, and_false, false_and, if_true, if_false, Option.some.injEq, Prod.mk.injEq, and_assoc, exists_and_left, exists_eq_left, exists_eq_left', exists_const, nw_ks, nw_f4, nw_fvs, nw_some, Nat.reduceAdd, nw_sz_I, nw_kd_I, nw_ln_I, nw_rf_I, nw_L_I, nw_I_I, nw_sz_L, nw_kd_L, nw_ln_L, nw_rf_L, nw_I_L, nw_L_L, nw_ob_I, nw_ob_L, nw_obr_I, nw_obr_L, nI_add, nw_b0, nw_b1, nw_b01, not_false_eq_true, not_true_eq_false, false_implies, true_implies, Classical.not_not, nw_i10, decide_eq_false_iff_not, decide_eq_true_eq, ne_eq, Option.toList_some, Option.toList_none, List.cons_append, List.nil_append, reduceIte, Nat.reduceEqDiff, Nat.reduceLT, Nat.reduceLeDiff, Nat.reduceSub, Nat.reduceMul, reduceCtorEq, ↓nwx_aload_n, ↓nwx_iload_n, ↓nwx_invokevirtual, dmNf_peer_0, rmNf_peer, hc]; try simp (disch := omega) only [nw_b0, nw_b1, nw_ilt, nw_ile, nw_ieq, nw_icl, nw_iin, nI_add, and_true, true_and, and_false, false_and, not_false_eq_true, not_true_eq_false, false_implies, true_implies, Classical.not_not, ne_eq, reduceIte, Nat.reduceEqDiff, Nat.reduceLT, Nat.reduceLeDiff, Nat.reduceAdd, Nat.reduceSub, Nat.reduceMul, hc])
  refine nw_do0 (c_Nf_isServer x hO) ?_
  rintro r w' ⟨rfl, rfl⟩
  by_cases hx : k_srv n x = true
  case neg =>
    rw [eq_false_of_ne_true hx]
    (apply V_s1 [23] 8; simp only [nwx_0, nwx_S, nw_s1, nw_pII, nw_pA, nw_tIs, nw_vis, nw_jpx, Option.isSome_some, Option.getD_some, nw_popn, nw_rok, nw_wok, nw_isR, nw_cd, nw_at, nw_put, nw_nl0, nw_nlS, nw_no2s, nw_ft, nw_l01, nw_ak, nw_tsw, nw_flat, Value.category, List.mem_cons, List.not_mem_nil, List.length_cons, List.length_nil, or_false, false_or, or_true, true_or, and_true, true_and, and_false, false_and, if_true, if_false, Option.some.injEq, Prod.mk.injEq, and_assoc, exists_and_left, exists_eq_left, exists_eq_left', exists_const, nw_ks, nw_f4, nw_fvs, nw_some, Nat.reduceAdd, nw_sz_I, nw_kd_I, nw_ln_I, nw_rf_I, nw_L_I, nw_I_I, nw_sz_L, nw_kd_L, nw_ln_L, nw_rf_L, nw_I_L, nw_L_L, nw_ob_I, nw_ob_L, nw_obr_I, nw_obr_L, nI_add, nw_b0, nw_b1, nw_b01, not_false_eq_true, not_true_eq_false, false_implies, true_implies, Classical.not_not, nw_i10, decide_eq_false_iff_not, decide_eq_true_eq, ne_eq, Option.toList_some, Option.toList_none, List.cons_append, List.nil_append, reduceIte, Nat.reduceEqDiff, Nat.reduceLT, Nat.reduceLeDiff, Nat.reduceSub, Nat.reduceMul, reduceCtorEq, ↓nwx_aload_n, ↓nwx_iconst, ↓nwx_ifCond, ↓nwx_iload_n, ↓nwx_invokevirtual, ↓nwx_ireturn, dmNf_peer_0, rmNf_peer, nw_b_f]; try simp (disch := omega) only [nw_b0, nw_b1, nw_ilt, nw_ile, nw_ieq, nw_icl, nw_iin, nI_add, and_true, true_and, and_false, false_and, not_false_eq_true, not_true_eq_false, false_implies, true_implies, Classical.not_not, ne_eq, reduceIte, Nat.reduceEqDiff, Nat.reduceLT, Nat.reduceLeDiff, Nat.reduceAdd, Nat.reduceSub, Nat.reduceMul, nw_b_f])
    exact no (fun q => hx q.1.1.1)
  have hx1 := hx
  obtain ⟨s, hs, rfl⟩ := k_srv_ok hn4 hx
  rw [hx1]
  (apply V_s1 [23] 8; simp only [nwx_0, nwx_S, nw_s1, nw_pII, nw_pA, nw_tIs, nw_vis, nw_jpx, Option.isSome_some, Option.getD_some, nw_popn, nw_rok, nw_wok, nw_isR, nw_cd, nw_at, nw_put, nw_nl0, nw_nlS, nw_no2s, nw_ft, nw_l01, nw_ak, nw_tsw, nw_flat, Value.category, List.mem_cons, List.not_mem_nil, List.length_cons, List.length_nil, or_false, false_or, or_true, true_or, and_true, true_and, and_false, false_and, if_true, if_false, Option.some.injEq, Prod.mk.injEq, and_assoc, exists_and_left, exists_eq_left, exists_eq_left', exists_const, nw_ks, nw_f4, nw_fvs, nw_some, Nat.reduceAdd, nw_sz_I, nw_kd_I, nw_ln_I, nw_rf_I, nw_L_I, nw_I_I, nw_sz_L, nw_kd_L, nw_ln_L, nw_rf_L, nw_I_L, nw_L_L, nw_ob_I, nw_ob_L, nw_obr_I, nw_obr_L, nI_add, nw_b0, nw_b1, nw_b01, not_false_eq_true, not_true_eq_false, false_implies, true_implies, Classical.not_not, nw_i10, decide_eq_false_iff_not, decide_eq_true_eq, ne_eq, Option.toList_some, Option.toList_none, List.cons_append, List.nil_append, reduceIte, Nat.reduceEqDiff, Nat.reduceLT, Nat.reduceLeDiff, Nat.reduceSub, Nat.reduceMul, reduceCtorEq, ↓nwx_aload_n, ↓nwx_iconst, ↓nwx_ifCond, ↓nwx_iload_n, ↓nwx_invokevirtual, ↓nwx_ireturn, dmNf_peer_0, rmNf_peer, nw_b_t, hc]; try simp (disch := omega) only [nw_b0, nw_b1, nw_ilt, nw_ile, nw_ieq, nw_icl, nw_iin, nI_add, and_true, true_and, and_false, false_and, not_false_eq_true, not_true_eq_false, false_implies, true_implies, Classical.not_not, ne_eq, reduceIte, Nat.reduceEqDiff, Nat.reduceLT, Nat.reduceLeDiff, Nat.reduceAdd, Nat.reduceSub, Nat.reduceMul, nw_b_t, hc])
  refine nw_do0 (c_Nf_isServer y hO) ?_
  rintro r w' ⟨rfl, rfl⟩
  by_cases hy : k_srv n y = true
  case neg =>
    rw [eq_false_of_ne_true hy]
    (apply V_s1 [23] 8; simp only [nwx_0, nwx_S, nw_s1, nw_pII, nw_pA, nw_tIs, nw_vis, nw_jpx, Option.isSome_some, Option.getD_some, nw_popn, nw_rok, nw_wok, nw_isR, nw_cd, nw_at, nw_put, nw_nl0, nw_nlS, nw_no2s, nw_ft, nw_l01, nw_ak, nw_tsw, nw_flat, Value.category, List.mem_cons, List.not_mem_nil, List.length_cons, List.length_nil, or_false, false_or, or_true, true_or, and_true, true_and, and_false, false_and, if_true, if_false, Option.some.injEq, Prod.mk.injEq, and_assoc, exists_and_left, exists_eq_left, exists_eq_left', exists_const, nw_ks, nw_f4, nw_fvs, nw_some, Nat.reduceAdd, nw_sz_I, nw_kd_I, nw_ln_I, nw_rf_I, nw_L_I, nw_I_I, nw_sz_L, nw_kd_L, nw_ln_L, nw_rf_L, nw_I_L, nw_L_L, nw_ob_I, nw_ob_L, nw_obr_I, nw_obr_L, nI_add, nw_b0, nw_b1, nw_b01, not_false_eq_true, not_true_eq_false, false_implies, true_implies, Classical.not_not, nw_i10, decide_eq_false_iff_not, decide_eq_true_eq, ne_eq, Option.toList_some, Option.toList_none, List.cons_append, List.nil_append, reduceIte, Nat.reduceEqDiff, Nat.reduceLT, Nat.reduceLeDiff, Nat.reduceSub, Nat.reduceMul, reduceCtorEq, ↓nwx_iconst, ↓nwx_ifCond, ↓nwx_if_icmp, ↓nwx_iload_n, ↓nwx_ireturn, dmNf_peer_0, rmNf_peer, nw_b_f]; try simp (disch := omega) only [nw_b0, nw_b1, nw_ilt, nw_ile, nw_ieq, nw_icl, nw_iin, nI_add, and_true, true_and, and_false, false_and, not_false_eq_true, not_true_eq_false, false_implies, true_implies, Classical.not_not, ne_eq, reduceIte, Nat.reduceEqDiff, Nat.reduceLT, Nat.reduceLeDiff, Nat.reduceAdd, Nat.reduceSub, Nat.reduceMul, nw_b_f])
    exact no (fun q => hy q.1.1.2)
  have hy1 := hy
  obtain ⟨t, ht, rfl⟩ := k_srv_ok hn4 hy
  rw [hy1]
  have hcs : (nI s).toNatClampNeg = s := nI_clamp (by omega)
  have hct : (nI t).toNatClampNeg = t := nI_clamp (by omega)
  rw [hcs, hct] at hp
  have hsv := nw_cs hO hs
  have hv := nw_Ok_sv hO hs
  have h9 := nw_Sv_9 hv
  have htt := nw_Ok_st hO hs ht
  unfold nw_Sv at hv
  unfold nw_St at htt
  have jS := j_sv hJ hs
  -- the pattern stands, and it is good
  have p38 : ¬ s = t → (pt = 0 ∨ nw_txtB true pt = true) → V mNf_peer 38 [.ref 1, .int (nI s), .int (nI t), .long pt, nw_u] [] w' 0 0 (nw_rj n B w' p) := fun hst hok => by
    rw [if_pos ⟨⟨⟨hx1, hy1⟩, fun q => hst ((nI_eq (by omega) (by omega)).mp q)⟩, hok⟩] at hp
    obtain ⟨p1, p2, p3, p4, p5, p6, p7, p8⟩ := jS
    have srv : ∀ w2 x20, nw_chg n s w' w2 → (∀ k, k ≠ 20 + 2 * t → nw_I w2 (nw_S n s k) = nw_I w' (nw_S n s k)) → nw_L w2 (nw_S n s 18) = vp_updL (nw_L w' (nw_S n s 18)) t pt → x20 = (if pt = 0 then nI 0 else S.1 20 (4 * s + t)) → nw_I w2 (nw_S n s (20 + 2 * t)) 1 = x20 → nw_J n w2 (q_i (q_l S 18 (4 * s + t) pt) 20 (4 * s + t) x20) (B + 1) ∧ nw_fm n w' w2 := fun w2 x20 hch hI hL hx20 h20 => by
      obtain ⟨q, q1, q2, q3, q4, q5, q6⟩ := p8 t ht
      have href : j_ref (q_i (q_l S 18 (4 * s + t) pt) 20 (4 * s + t) x20) := by
        refine j_ref_i (S := q_l S 18 (4 * s + t) pt) hJ.2.1 (Or.inr (Or.inr ?_))
        rw [hx20]
        split
        · exact ⟨0, by omega, rfl⟩
        · exact ⟨q, q1, q3⟩
      have hk2 : ∀ k, k < 20 → nw_c n w2 s k = nw_c n w' s k := fun k hk => hI k (by omega)
      refine nw_J_s hJ hs hch href rfl rfl ⟨rfl, rfl, rfl, rfl, rfl⟩ (fun t' ht' hts => q_at_i (q_at_l (q_at_r t' S) (by omega)) (by omega)) ?_
      refine ⟨j_ent_c p1 ⟨hk2 4 (by omega), hk2 5 (by omega), hk2 16 (by omega), hk2 17 (by omega)⟩ (fun i _ _ => ⟨rfl, rfl, rfl, rfl⟩) (fun i _ _ q => ⟨q, rfl⟩), j_grp_c p2 ⟨hk2 7 (by omega), hk2 8 (by omega), fun g hg => hk2 (10 + g) (by omega)⟩ (by omega) (fun g hg => ⟨rfl, rfl⟩) (fun i g _ _ _ => rfl) (fun i _ _ => Or.inr (Or.inr rfl)) (fun i _ _ q => q), j_cnt_c p3 (hk2 3 (by omega)) (fun i _ _ => rfl), j_int_c p4 (hk2 6 (by omega)) ⟨rfl, rfl, rfl, rfl⟩ (fun i _ _ => rfl) (fun i _ _ q => ⟨q, rfl⟩), j_sel_c p5 (hk2 0 (by omega)) (by omega) ⟨rfl, rfl⟩, j_own_c p6 (hk2 2 (by omega)) ⟨rfl, rfl⟩ (fun i _ _ => ⟨rfl, rfl⟩) (fun i _ _ _ => rfl), fun t' ht' => ?_, fun t' ht' => ?_⟩
      · rw [hL]
        show vp_updL (nw_L w' (nw_S n s 18)) t pt t' = vp_updL (S.2 18) (4 * s + t) pt (4 * s + t') ∧ (vp_updL (S.2 18) (4 * s + t) pt (4 * s + t') = 0 ∨ nw_txt true (vp_updL (S.2 18) (4 * s + t) pt (4 * s + t'))) ∧ (t' = s → vp_updL (S.2 18) (4 * s + t) pt (4 * s + t') = 0)
        by_cases htt' : t' = t
        · have e1 : vp_updL (nw_L w' (nw_S n s 18)) t pt t' = pt := if_pos htt'
          have e2 : vp_updL (S.2 18) (4 * s + t) pt (4 * s + t') = pt := if_pos (by rw [htt'])
          rw [e1, e2]
          refine ⟨rfl, ?_, fun q => absurd (q.symm.trans htt') hst⟩
          rcases hok with hok | hok
          · exact Or.inl hok
          · exact Or.inr ((nw_txtB_ok true pt).mp hok)
        · have e1 : vp_updL (nw_L w' (nw_S n s 18)) t pt t' = nw_L w' (nw_S n s 18) t' := if_neg htt'
          have e2 : vp_updL (S.2 18) (4 * s + t) pt (4 * s + t') = S.2 18 (4 * s + t') := if_neg (by omega)
          rw [e1, e2]
          exact p7 t' ht'
      · have e21 : nw_c n w2 s (21 + 2 * t') = nw_c n w' s (21 + 2 * t') := hI _ (by omega)
        rw [e21]
        by_cases htt' : t' = t
        · subst htt'
          show ∃ q, q ≤ 24 ∧ nw_I w2 (nw_S n s (20 + 2 * t')) 1 = nI q ∧ upd (S.1 20) (4 * s + t') x20 (4 * s + t') = nI q ∧ _
          rw [h20, pk_us, hx20]
          by_cases h0 : pt = 0
          · rw [if_pos h0]
            exact ⟨0, by omega, rfl, rfl, rfl, List.nodup_nil, fun x hx => absurd hx List.not_mem_nil⟩
          · rw [if_neg h0]
            exact ⟨q, q1, q3, q3, q4, q5, q6⟩
        · have e20 : nw_c n w2 s (20 + 2 * t') = nw_c n w' s (20 + 2 * t') := hI _ (by omega)
          rw [e20, show (q_i (q_l S 18 (4 * s + t) pt) 20 (4 * s + t) x20).1 20 (4 * s + t') = S.1 20 (4 * s + t') from pk_un (by omega)]
          exact p8 t' ht'
    (apply V_s1 [] 24; simp only [nwx_0, nwx_S, nw_s1, nw_pII, nw_pA, nw_tIs, nw_vis, nw_jpx, Option.isSome_some, Option.getD_some, nw_popn, nw_rok, nw_wok, nw_isR, nw_cd, nw_at, nw_put, nw_nl0, nw_nlS, nw_no2s, nw_ft, nw_l01, nw_ak, nw_tsw, nw_flat, Value.category, List.mem_cons, List.not_mem_nil, List.length_cons, List.length_nil, or_false, false_or, or_true, true_or, and_true, true_and, and_false, false_and, if_true, if_false, Option.some.injEq, Prod.mk.injEq, and_assoc, exists_and_left, exists_eq_left, exists_eq_left', exists_const, nw_ks, nw_f4, nw_fvs, nw_some, Nat.reduceAdd, nw_sz_I, nw_kd_I, nw_ln_I, nw_rf_I, nw_L_I, nw_I_I, nw_sz_L, nw_kd_L, nw_ln_L, nw_rf_L, nw_I_L, nw_L_L, nw_ob_I, nw_ob_L, nw_obr_I, nw_obr_L, nI_add, nw_b0, nw_b1, nw_b01, not_false_eq_true, not_true_eq_false, false_implies, true_implies, Classical.not_not, nw_i10, decide_eq_false_iff_not, decide_eq_true_eq, ne_eq, Option.toList_some, Option.toList_none, List.cons_append, List.nil_append, reduceIte, Nat.reduceEqDiff, Nat.reduceLT, Nat.reduceLeDiff, Nat.reduceSub, Nat.reduceMul, reduceCtorEq, ↓nwx_aaload, ↓nwx_aload_n, ↓nwx_getfield, ↓nwx_iconst, ↓nwx_ifCond, ↓nwx_iload_n, ↓nwx_invokevirtual, ↓nwx_ireturn, ↓nwx_lastore, ↓nwx_lcmp, ↓nwx_lconst, ↓nwx_lload_n, dmNf_peer_0, dmNf_peer_1, rmNf_peer, hc, hsv, hv, h9, htt, hcs, hct, nw_cmp0]; try simp (disch := omega) only [nw_b0, nw_b1, nw_ilt, nw_ile, nw_ieq, nw_icl, nw_iin, nI_add, and_true, true_and, and_false, false_and, not_false_eq_true, not_true_eq_false, false_implies, true_implies, Classical.not_not, ne_eq, reduceIte, Nat.reduceEqDiff, Nat.reduceLT, Nat.reduceLeDiff, Nat.reduceAdd, Nat.reduceSub, Nat.reduceMul, hc, hsv, hv, h9, htt, hcs, hct, nw_cmp0])
    refine ⟨hs, ht, fun h0 => ?_, fun h0 => ⟨hs, ht, ?_⟩⟩
    · rw [hp]
      exact ⟨rfl, srv _ _ (nw_chg_L (nw_chg_r n s w') (by omega) _) (fun k hk => rfl) (by rw [nw_L_L, va_up_self]) rfl (by
        rw [if_neg h0]
        obtain ⟨q, q1, q2, q3, -⟩ := p8 t ht
        exact (show nw_I w' (nw_S n s (20 + 2 * t)) 1 = nI q from q2).trans q3.symm)⟩
    · refine nw_do0 (c_Ba_clear htt.2.1) ?_
      rintro r w2 ⟨rfl, rfl⟩
      (apply V_s1 [] 4; simp only [nwx_0, nwx_S, nw_s1, nw_pII, nw_pA, nw_tIs, nw_vis, nw_jpx, Option.isSome_some, Option.getD_some, nw_popn, nw_rok, nw_wok, nw_isR, nw_cd, nw_at, nw_put, nw_nl0, nw_nlS, nw_no2s, nw_ft, nw_l01, nw_ak, nw_tsw, nw_flat, Value.category, List.mem_cons, List.not_mem_nil, List.length_cons, List.length_nil, or_false, false_or, or_true, true_or, and_true, true_and, and_false, false_and, if_true, if_false, Option.some.injEq, Prod.mk.injEq, and_assoc, exists_and_left, exists_eq_left, exists_eq_left', exists_const, nw_ks, nw_f4, nw_fvs, nw_some, Nat.reduceAdd, nw_sz_I, nw_kd_I, nw_ln_I, nw_rf_I, nw_L_I, nw_I_I, nw_sz_L, nw_kd_L, nw_ln_L, nw_rf_L, nw_I_L, nw_L_L, nw_ob_I, nw_ob_L, nw_obr_I, nw_obr_L, nI_add, nw_b0, nw_b1, nw_b01, not_false_eq_true, not_true_eq_false, false_implies, true_implies, Classical.not_not, nw_i10, decide_eq_false_iff_not, decide_eq_true_eq, ne_eq, Option.toList_some, Option.toList_none, List.cons_append, List.nil_append, reduceIte, Nat.reduceEqDiff, Nat.reduceLT, Nat.reduceLeDiff, Nat.reduceSub, Nat.reduceMul, reduceCtorEq, ↓nwx_iconst, ↓nwx_ireturn, dmNf_peer_1, rmNf_peer]; try simp (disch := omega) only [nw_b0, nw_b1, nw_ilt, nw_ile, nw_ieq, nw_icl, nw_iin, nI_add, and_true, true_and, and_false, false_and, not_false_eq_true, not_true_eq_false, false_implies, true_implies, Classical.not_not, ne_eq, reduceIte, Nat.reduceEqDiff, Nat.reduceLT, Nat.reduceLeDiff, Nat.reduceAdd, Nat.reduceSub, Nat.reduceMul])
      rw [hp]
      refine ⟨rfl, srv _ _ (nw_chg_I (nw_chg_L (nw_chg_r n s w') (by omega) _) (by omega) _) (fun k hk => ?_) ?_ rfl ?_⟩
      · rw [nw_S_Ine hk]
        rfl
      · rw [nw_L_I, nw_L_L, va_up_self]
      · rw [nw_S_Ieq, pk_us, if_pos h0]
  (apply V_s1 [23] 8; simp only [nwx_0, nwx_S, nw_s1, nw_pII, nw_pA, nw_tIs, nw_vis, nw_jpx, Option.isSome_some, Option.getD_some, nw_popn, nw_rok, nw_wok, nw_isR, nw_cd, nw_at, nw_put, nw_nl0, nw_nlS, nw_no2s, nw_ft, nw_l01, nw_ak, nw_tsw, nw_flat, Value.category, List.mem_cons, List.not_mem_nil, List.length_cons, List.length_nil, or_false, false_or, or_true, true_or, and_true, true_and, and_false, false_and, if_true, if_false, Option.some.injEq, Prod.mk.injEq, and_assoc, exists_and_left, exists_eq_left, exists_eq_left', exists_const, nw_ks, nw_f4, nw_fvs, nw_some, Nat.reduceAdd, nw_sz_I, nw_kd_I, nw_ln_I, nw_rf_I, nw_L_I, nw_I_I, nw_sz_L, nw_kd_L, nw_ln_L, nw_rf_L, nw_I_L, nw_L_L, nw_ob_I, nw_ob_L, nw_obr_I, nw_obr_L, nI_add, nw_b0, nw_b1, nw_b01, not_false_eq_true, not_true_eq_false, false_implies, true_implies, Classical.not_not, nw_i10, decide_eq_false_iff_not, decide_eq_true_eq, ne_eq, Option.toList_some, Option.toList_none, List.cons_append, List.nil_append, reduceIte, Nat.reduceEqDiff, Nat.reduceLT, Nat.reduceLeDiff, Nat.reduceSub, Nat.reduceMul, reduceCtorEq, ↓nwx_iconst, ↓nwx_ifCond, ↓nwx_if_icmp, ↓nwx_iload_n, ↓nwx_ireturn, dmNf_peer_0, rmNf_peer, nw_b_t, hc]; try simp (disch := omega) only [nw_b0, nw_b1, nw_ilt, nw_ile, nw_ieq, nw_icl, nw_iin, nI_add, and_true, true_and, and_false, false_and, not_false_eq_true, not_true_eq_false, false_implies, true_implies, Classical.not_not, ne_eq, reduceIte, Nat.reduceEqDiff, Nat.reduceLT, Nat.reduceLeDiff, Nat.reduceAdd, Nat.reduceSub, Nat.reduceMul, nw_b_t, hc])
  refine ⟨fun hst => ?_, fun hst => no (fun q => q.1.2 (by rw [hst]))⟩
  (apply V_s1 [38] 8; simp only [nwx_0, nwx_S, nw_s1, nw_pII, nw_pA, nw_tIs, nw_vis, nw_jpx, Option.isSome_some, Option.getD_some, nw_popn, nw_rok, nw_wok, nw_isR, nw_cd, nw_at, nw_put, nw_nl0, nw_nlS, nw_no2s, nw_ft, nw_l01, nw_ak, nw_tsw, nw_flat, Value.category, List.mem_cons, List.not_mem_nil, List.length_cons, List.length_nil, or_false, false_or, or_true, true_or, and_true, true_and, and_false, false_and, if_true, if_false, Option.some.injEq, Prod.mk.injEq, and_assoc, exists_and_left, exists_eq_left, exists_eq_left', exists_const, nw_ks, nw_f4, nw_fvs, nw_some, Nat.reduceAdd, nw_sz_I, nw_kd_I, nw_ln_I, nw_rf_I, nw_L_I, nw_I_I, nw_sz_L, nw_kd_L, nw_ln_L, nw_rf_L, nw_I_L, nw_L_L, nw_ob_I, nw_ob_L, nw_obr_I, nw_obr_L, nI_add, nw_b0, nw_b1, nw_b01, not_false_eq_true, not_true_eq_false, false_implies, true_implies, Classical.not_not, nw_i10, decide_eq_false_iff_not, decide_eq_true_eq, ne_eq, Option.toList_some, Option.toList_none, List.cons_append, List.nil_append, reduceIte, Nat.reduceEqDiff, Nat.reduceLT, Nat.reduceLeDiff, Nat.reduceSub, Nat.reduceMul, reduceCtorEq, ↓nwx_ifCond, ↓nwx_invokestatic, ↓nwx_lcmp, ↓nwx_lconst, ↓nwx_lload_n, dmNf_peer_0, rmNf_peer, nw_cmp0]; try simp (disch := omega) only [nw_b0, nw_b1, nw_ilt, nw_ile, nw_ieq, nw_icl, nw_iin, nI_add, and_true, true_and, and_false, false_and, not_false_eq_true, not_true_eq_false, false_implies, true_implies, Classical.not_not, ne_eq, reduceIte, Nat.reduceEqDiff, Nat.reduceLT, Nat.reduceLeDiff, Nat.reduceAdd, Nat.reduceSub, Nat.reduceMul, nw_cmp0])
  refine ⟨fun h0 => p38 hst (Or.inl h0), fun h0 => nw_do0 (c_Te_isPattern pt) ?_⟩
  rintro r w' ⟨rfl, rfl⟩
  cases hpt : nw_txtB true pt
  · (apply V_s1 [38] 5; simp only [nwx_0, nwx_S, nw_s1, nw_pII, nw_pA, nw_tIs, nw_vis, nw_jpx, Option.isSome_some, Option.getD_some, nw_popn, nw_rok, nw_wok, nw_isR, nw_cd, nw_at, nw_put, nw_nl0, nw_nlS, nw_no2s, nw_ft, nw_l01, nw_ak, nw_tsw, nw_flat, Value.category, List.mem_cons, List.not_mem_nil, List.length_cons, List.length_nil, or_false, false_or, or_true, true_or, and_true, true_and, and_false, false_and, if_true, if_false, Option.some.injEq, Prod.mk.injEq, and_assoc, exists_and_left, exists_eq_left, exists_eq_left', exists_const, nw_ks, nw_f4, nw_fvs, nw_some, Nat.reduceAdd, nw_sz_I, nw_kd_I, nw_ln_I, nw_rf_I, nw_L_I, nw_I_I, nw_sz_L, nw_kd_L, nw_ln_L, nw_rf_L, nw_I_L, nw_L_L, nw_ob_I, nw_ob_L, nw_obr_I, nw_obr_L, nI_add, nw_b0, nw_b1, nw_b01, not_false_eq_true, not_true_eq_false, false_implies, true_implies, Classical.not_not, nw_i10, decide_eq_false_iff_not, decide_eq_true_eq, ne_eq, Option.toList_some, Option.toList_none, List.cons_append, List.nil_append, reduceIte, Nat.reduceEqDiff, Nat.reduceLT, Nat.reduceLeDiff, Nat.reduceSub, Nat.reduceMul, reduceCtorEq, ↓nwx_iconst, ↓nwx_ifCond, ↓nwx_ireturn, dmNf_peer_0, rmNf_peer, nw_b_f]; try simp (disch := omega) only [nw_b0, nw_b1, nw_ilt, nw_ile, nw_ieq, nw_icl, nw_iin, nI_add, and_true, true_and, and_false, false_and, not_false_eq_true, not_true_eq_false, false_implies, true_implies, Classical.not_not, ne_eq, reduceIte, Nat.reduceEqDiff, Nat.reduceLT, Nat.reduceLeDiff, Nat.reduceAdd, Nat.reduceSub, Nat.reduceMul, nw_b_f])
    exact no (fun q => q.2.elim h0 (fun k => by rw [hpt] at k; cases k))
  · (apply V_s1 [38] 5; simp only [nwx_0, nwx_S, nw_s1, nw_pII, nw_pA, nw_tIs, nw_vis, nw_jpx, Option.isSome_some, Option.getD_some, nw_popn, nw_rok, nw_wok, nw_isR, nw_cd, nw_at, nw_put, nw_nl0, nw_nlS, nw_no2s, nw_ft, nw_l01, nw_ak, nw_tsw, nw_flat, Value.category, List.mem_cons, List.not_mem_nil, List.length_cons, List.length_nil, or_false, false_or, or_true, true_or, and_true, true_and, and_false, false_and, if_true, if_false, Option.some.injEq, Prod.mk.injEq, and_assoc, exists_and_left, exists_eq_left, exists_eq_left', exists_const, nw_ks, nw_f4, nw_fvs, nw_some, Nat.reduceAdd, nw_sz_I, nw_kd_I, nw_ln_I, nw_rf_I, nw_L_I, nw_I_I, nw_sz_L, nw_kd_L, nw_ln_L, nw_rf_L, nw_I_L, nw_L_L, nw_ob_I, nw_ob_L, nw_obr_I, nw_obr_L, nI_add, nw_b0, nw_b1, nw_b01, not_false_eq_true, not_true_eq_false, false_implies, true_implies, Classical.not_not, nw_i10, decide_eq_false_iff_not, decide_eq_true_eq, ne_eq, Option.toList_some, Option.toList_none, List.cons_append, List.nil_append, reduceIte, Nat.reduceEqDiff, Nat.reduceLT, Nat.reduceLeDiff, Nat.reduceSub, Nat.reduceMul, reduceCtorEq, ↓nwx_iconst, ↓nwx_ifCond, ↓nwx_ireturn, dmNf_peer_0, rmNf_peer, nw_b_t]; try simp (disch := omega) only [nw_b0, nw_b1, nw_ilt, nw_ile, nw_ieq, nw_icl, nw_iin, nI_add, and_true, true_and, and_false, false_and, not_false_eq_true, not_true_eq_false, false_implies, true_implies, Classical.not_not, ne_eq, reduceIte, Nat.reduceEqDiff, Nat.reduceLT, Nat.reduceLeDiff, Nat.reduceAdd, Nat.reduceSub, Nat.reduceMul, nw_b_t])
    exact p38 hst (Or.inr hpt)
end NT
