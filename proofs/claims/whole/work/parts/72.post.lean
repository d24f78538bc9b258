/-! NewsFlood: post and offer -/
section NW
variable {n B : Nat} {w : nw_W} {S : nw_Q}
theorem nw_dle (a b : Int32) : decide (a ≤ b) = !(decide (b < a)) := by
  by_cases h : b < a
  · rw [decide_eq_true h, decide_eq_false (Int32.not_le.mpr h)]
    rfl
  · rw [decide_eq_false h, decide_eq_true (Int32.not_lt.mp h)]
    rfl
theorem k_use_q (hJ : nw_J n w S B) {s i : Nat} (hs : s < n) (i1 : 1 ≤ i) (i2 : i ≤ 40) : k_use n w s i = !(q_useless S s i) := by
  obtain ⟨-, -, ⟨-, g1, g2, -⟩, h4, -⟩ := id hJ
  obtain ⟨-, a2, a3, -⟩ := h4 i i1 i2
  have e := j_none (S := S) (s := s) (i := i) (kp := nw_I w (nw_S n s 7)) (fun g hg => ((j_sv hJ hs).2.1 g hg).1) 6 (Nat.le_refl _)
  unfold k_use q_useless
  rw [e, g1, g2, a2, a3, Bool.not_or, Bool.not_or, Bool.not_not, nw_dle, nw_dle]
  cases nw_car (S.1 5 i) (nw_I w (nw_S n s 7)) 6 <;> cases decide (S.1 6 i < S.1 3 2 - S.1 3 1) <;> cases decide (S.1 3 2 + nI 10 < S.1 6 i) <;> rfl
theorem j_known (hJ : nw_J n w S B) {s i : Nat} (hs : s < n) (i1 : 1 ≤ i) (i2 : i ≤ 40) : (nw_I w (nw_S n s 4) i = S.1 12 (41 * s + i)) ∧ (S.1 12 (41 * s + i) = nI 0 ∨ nI 0 < S.1 12 (41 * s + i)) := by
  obtain ⟨a1, -, -, -, ⟨k, k5, a5⟩, -⟩ := (j_sv hJ hs).1 i i1 i2
  refine ⟨a1, ?_⟩
  rw [a5, nI_inj (by omega) (by omega), nI_lt' (by omega) (by omega)]
  omega
theorem j_open (hJ : nw_J n w S B) {s : Nat} (hs : s < n) : (nw_I w (nw_S n s 6) 0 = S.1 21 s) ∧ (S.1 21 s = nI 0 ∨ nI 0 < S.1 21 s) := by
  obtain ⟨a1, a2⟩ := (j_sv hJ hs).2.2.2.1
  refine ⟨a1, ?_⟩
  rcases a2 with ⟨a2, -⟩ | ⟨i, i1, i2, a2, -⟩
  · exact Or.inl a2
  · right
    rw [a2, nI_lt' (by omega) (by omega)]
    omega
theorem j_lacks (hJ : nw_J n w S B) {s i m : Nat} {x : Int32} (hs : s < n) (m1 : 1 ≤ m) (m2 : m ≤ 8) (h7 : S.1 7 i = nI m) (hx : nw_room (nw_fr0 (nw_I w (nw_S n s 2))) m x) : (decide (nI 24 ≤ nw_I w (nw_S n s 3) 2) || decide (x = -1)) = q_lacks S s i := by
  obtain ⟨c1, c2⟩ := (j_sv hJ hs).2.2.1
  have c1 : nw_I w (nw_S n s 3) 2 = nI (q_ents S s) := c1
  have hr := j_room (j_freeJ hJ hs) m1 (show m ≤ 24 by omega)
  have hxr := nw_room_un hx hr
  unfold q_lacks
  rw [c1, h7, ← hxr, show decide (nI 24 ≤ nI (q_ents S s)) = decide (q_ents S s = 24) from decide_eq_decide.mpr (by rw [nI_le' (by omega) (by omega)]; omega)]
  refine congrArg _ (decide_eq_decide.mpr ?_)
  rcases hx with ⟨c, b1, b2, -⟩ | ⟨b1, -⟩
  · rw [b2, nI_m1 (by omega), nI_lt' (by omega) (by omega)]
    exact ⟨fun q => q.elim, fun q => by omega⟩
  · rw [b1]
    exact ⟨fun _ => by decide, fun _ => rfl⟩
theorem j_room2 (hJ : nw_J n w S B) {s i m : Nat} (hs : s < n) (m1 : 1 ≤ m) (m2 : m ≤ 8) (h7 : S.1 7 i = nI m) (hl : ¬ q_lacks S s i = true) : q_ents S s < 24 ∧ ∃ k, q_room S s (nI m) = nI k ∧ k + m ≤ 24 ∧ nw_all (nw_fr0 (nw_I w (nw_S n s 2))) k m ∧ nw_room (nw_fr0 (nw_I w (nw_S n s 2))) m (nI k) := by
  have c2 := (j_sv hJ hs).2.2.1.2
  have hr := j_room (j_freeJ hJ hs) m1 (show m ≤ 24 by omega)
  unfold q_lacks at hl
  rw [h7, Bool.or_eq_true, decide_eq_true_eq, decide_eq_true_eq] at hl
  refine ⟨by omega, ?_⟩
  rcases id hr with ⟨c, b1, b2, b3, b4⟩ | ⟨b1, -⟩
  · rw [b2] at hr
    exact ⟨c, b2, b1, b3, hr⟩
  · exact absurd (Or.inr (by rw [b1]; decide)) hl
/-- an article is sent off -/
theorem nw_J_sent (hJ : nw_J n w S B) {i : Nat} (i1 : 1 ≤ i) (i2 : i ≤ 40) (h5 : ¬ S.1 5 i = nI 0) : nw_J n (nw_setI w (nw_A n + 1 + i) (upd (nw_I w (nw_A n + 1 + i)) 1 (nI 1))) (q_i S 9 i (nI 1)) B ∧ nw_fm n w (nw_setI w (nw_A n + 1 + i) (upd (nw_I w (nw_A n + 1 + i)) 1 (nI 1))) := by
  obtain ⟨h1, h2, h3, h4, h5'⟩ := hJ
  refine ⟨⟨nw_Ok_1 (w := w) rfl h1, j_ref_i h2 (Or.inl (by decide)), ?_, fun j a1 a2 => ?_, fun s hs => ?_⟩, rfl, fun a ha => ⟨?_, rfl⟩⟩
  · unfold j_glob
    rw [nw_I_I, va_up_ne _ _ (show 1 ≠ nw_A n + 1 + i by unfold nw_A; omega)]
    exact h3
  · by_cases hji : j = i
    · subst hji
      rw [nw_I_I, va_up_self]
      obtain ⟨b1, b2, b3, b4, b5, b6⟩ := h4 j a1 a2
      have e9 : (q_i S 9 j (nI 1)).1 9 j = nI 1 := pk_us
      unfold j_art
      rw [e9, pk_us, pk_un (by decide), pk_un (by decide), pk_un (by decide), pk_un (by decide), pk_un (by decide)]
      refine ⟨rfl, b2, b3, b4, b5, ?_⟩
      rcases b6 with b6 | ⟨c1, c2, c3, c4⟩
      · exact absurd b6.2.1 h5
      · exact Or.inr ⟨c1, c2, Or.inr rfl, c4⟩
    · rw [nw_I_I, va_up_ne _ _ (show nw_A n + 1 + j ≠ nw_A n + 1 + i by omega)]
      have := h4 j a1 a2
      unfold j_art at this ⊢
      rw [show (q_i S 9 i (nI 1)).1 9 j = S.1 9 j from pk_un hji]
      exact this
  · refine j_srv_c (h5' s hs) h1.2.1 (fun k hk => ?_) rfl (Nat.le_refl _) (q_at_i (q_at_r s S) (Or.inl (by decide))) (fun j _ _ q => ⟨?_, rfl⟩)
    · show nw_I (nw_setI _ _ _) (nw_S n s k) = _
      rw [nw_I_I, va_up_ne _ _ (show nw_S n s k ≠ nw_A n + 1 + i by rw [show nw_A n + 1 + i = nw_A n + (1 + i) by omega]; exact (nw_A_ne hs hk).symm)]
      rfl
    · by_cases hji : j = i
      · rw [hji]
        exact pk_us
      · exact (pk_un hji).trans q
  · rw [nw_I_I, va_up_ne _ _ (show a ≠ nw_A n + 1 + i by omega)]
set_option maxRecDepth 20000 in
theorem p_Nf_post (x y z : Int32) (hJ : nw_J n w S B) : V mNf_post 0 (nw_ent mNf_post [.ref 1, .int x, .int y, .int z]) [] w 0 0 (nw_rj n B w (q_post S x y z)) := by
  have hO := hJ.1
  have hn4 := hO.2.1
  have hc := nw_cf hO
  obtain ⟨p, hp⟩ : ∃ p, p = q_post S x y z := ⟨_, rfl⟩
  rw [← hp, emNf_post]
  unfold q_post at hp
  have no : ¬ ((((q_srv S x = true ∧ q_id y = true) ∧ ¬ S.1 5 y.toNatClampNeg = nI 0) ∧ nI 0 ≤ z) ∧ z < nI 1 <<< (nI n &&& 31)) → nw_rj n B w p (some (.int (-1))) w := fun h => by
    rw [if_pos (show q_pno S x y z by unfold q_pno; rw [j_g3 hJ]; exact h)] at hp
    rw [hp]
    exact nw_rj_q hJ
  (apply V_s1 [] 5; simp only [nwx_0, nwx_S, nw_s1, nw_pII, nw_pA, nw_tIs, nw_vis, nw_jpx, Option.isSome_some, Option.getD_some, nw_popn, nw_rok, nw_wok, nw_isR, nw_cd, nw_at, nw_put, nw_nl0, nw_nlS, nw_no2s, nw_ft, nw_l01, nw_ak, nw_tsw, nw_flat, Value.category, List.mem_cons, List.not_mem_nil, List.length_cons, List.length_nil, or_false, false_or, or_true, true_or, and_true, true_and, and_false, false_and, if_true, if_false, Option.some.injEq, Prod.mk.injEq, and_assoc, exists_and_left, exists_eq_left, exists_eq_left', exists_const, nw_ks, nw_f4, nw_fvs, nw_some, Nat.reduceAdd, nw_sz_I, nw_kd_I, nw_ln_I, nw_rf_I, nw_L_I, nw_I_I, nw_sz_L, nw_kd_L, nw_ln_L, nw_rf_L, nw_I_L, nw_L_L, nw_ob_I, nw_ob_L, nw_obr_I, nw_obr_L, nI_add, nw_b0, nw_b1, nw_b01, not_false_eq_true, not_true_eq_false, false_implies, true_implies, Classical.not_not, nw_i10, decide_eq_false_iff_not, decide_eq_true_eq, ne_eq, Option.toList_some, Option.toList_none, List.cons_append, List.nil_append, reduceIte, Nat.reduceEqDiff, Nat.reduceLT, Nat.reduceLeDiff, Nat.reduceSub, Nat.reduceMul, reduceCtorEq, ↓nwx_aload_n, ↓nwx_iload_n, ↓nwx_invokevirtual, dmNf_post_0, rmNf_post, hc]; try simp (disch := omega) only [nw_b0, nw_b1, nw_ilt, nw_ile, nw_ieq, nw_icl, nw_iin, nI_add, and_true, true_and, and_false, false_and, not_false_eq_true, not_true_eq_false, false_implies, true_implies, Classical.not_not, ne_eq, reduceIte, Nat.reduceEqDiff, Nat.reduceLT, Nat.reduceLeDiff, Nat.reduceAdd, Nat.reduceSub, Nat.reduceMul, hc])
  refine nw_do0 (c_Nf_isServer x hO) ?_
  rintro r w' ⟨rfl, rfl⟩
  rw [← q_srv_k (j_g3 hJ)]
  by_cases hx : q_srv S x = true
  case neg =>
    rw [eq_false_of_ne_true hx]
    (apply V_s1 [29] 7; simp only [nwx_0, nwx_S, nw_s1, nw_pII, nw_pA, nw_tIs, nw_vis, nw_jpx, Option.isSome_some, Option.getD_some, nw_popn, nw_rok, nw_wok, nw_isR, nw_cd, nw_at, nw_put, nw_nl0, nw_nlS, nw_no2s, nw_ft, nw_l01, nw_ak, nw_tsw, nw_flat, Value.category, List.mem_cons, List.not_mem_nil, List.length_cons, List.length_nil, or_false, false_or, or_true, true_or, and_true, true_and, and_false, false_and, if_true, if_false, Option.some.injEq, Prod.mk.injEq, and_assoc, exists_and_left, exists_eq_left, exists_eq_left', exists_const, nw_ks, nw_f4, nw_fvs, nw_some, Nat.reduceAdd, nw_sz_I, nw_kd_I, nw_ln_I, nw_rf_I, nw_L_I, nw_I_I, nw_sz_L, nw_kd_L, nw_ln_L, nw_rf_L, nw_I_L, nw_L_L, nw_ob_I, nw_ob_L, nw_obr_I, nw_obr_L, nI_add, nw_b0, nw_b1, nw_b01, not_false_eq_true, not_true_eq_false, false_implies, true_implies, Classical.not_not, nw_i10, decide_eq_false_iff_not, decide_eq_true_eq, ne_eq, Option.toList_some, Option.toList_none, List.cons_append, List.nil_append, reduceIte, Nat.reduceEqDiff, Nat.reduceLT, Nat.reduceLeDiff, Nat.reduceSub, Nat.reduceMul, reduceCtorEq, ↓nwx_iconst, ↓nwx_ifCond, ↓nwx_iload_n, ↓nwx_invokestatic, ↓nwx_ireturn, dmNf_post_0, rmNf_post, nw_b_f]; try simp (disch := omega) only [nw_b0, nw_b1, nw_ilt, nw_ile, nw_ieq, nw_icl, nw_iin, nI_add, and_true, true_and, and_false, false_and, not_false_eq_true, not_true_eq_false, false_implies, true_implies, Classical.not_not, ne_eq, reduceIte, Nat.reduceEqDiff, Nat.reduceLT, Nat.reduceLeDiff, Nat.reduceAdd, Nat.reduceSub, Nat.reduceMul, nw_b_f])
    exact no (fun q => hx q.1.1.1.1)
  have hx1 := hx
  obtain ⟨s, hs, rfl⟩ := q_srv_ok (j_g3 hJ) hn4 hx
  rw [hx1]
  (apply V_s1 [29] 7; simp only [nwx_0, nwx_S, nw_s1, nw_pII, nw_pA, nw_tIs, nw_vis, nw_jpx, Option.isSome_some, Option.getD_some, nw_popn, nw_rok, nw_wok, nw_isR, nw_cd, nw_at, nw_put, nw_nl0, nw_nlS, nw_no2s, nw_ft, nw_l01, nw_ak, nw_tsw, nw_flat, Value.category, List.mem_cons, List.not_mem_nil, List.length_cons, List.length_nil, or_false, false_or, or_true, true_or, and_true, true_and, and_false, false_and, if_true, if_false, Option.some.injEq, Prod.mk.injEq, and_assoc, exists_and_left, exists_eq_left, exists_eq_left', exists_const, nw_ks, nw_f4, nw_fvs, nw_some, Nat.reduceAdd, nw_sz_I, nw_kd_I, nw_ln_I, nw_rf_I, nw_L_I, nw_I_I, nw_sz_L, nw_kd_L, nw_ln_L, nw_rf_L, nw_I_L, nw_L_L, nw_ob_I, nw_ob_L, nw_obr_I, nw_obr_L, nI_add, nw_b0, nw_b1, nw_b01, not_false_eq_true, not_true_eq_false, false_implies, true_implies, Classical.not_not, nw_i10, decide_eq_false_iff_not, decide_eq_true_eq, ne_eq, Option.toList_some, Option.toList_none, List.cons_append, List.nil_append, reduceIte, Nat.reduceEqDiff, Nat.reduceLT, Nat.reduceLeDiff, Nat.reduceSub, Nat.reduceMul, reduceCtorEq, ↓nwx_iconst, ↓nwx_ifCond, ↓nwx_iload_n, ↓nwx_invokestatic, ↓nwx_ireturn, dmNf_post_0, rmNf_post, nw_b_t]; try simp (disch := omega) only [nw_b0, nw_b1, nw_ilt, nw_ile, nw_ieq, nw_icl, nw_iin, nI_add, and_true, true_and, and_false, false_and, not_false_eq_true, not_true_eq_false, false_implies, true_implies, Classical.not_not, ne_eq, reduceIte, Nat.reduceEqDiff, Nat.reduceLT, Nat.reduceLeDiff, Nat.reduceAdd, Nat.reduceSub, Nat.reduceMul, nw_b_t])
  refine nw_do0 (c_Nf_isId y) ?_
  rintro r w' ⟨rfl, rfl⟩
  by_cases hy : q_id y = true
  case neg =>
    rw [eq_false_of_ne_true hy]
    (apply V_s1 [29] 11; simp only [nwx_0, nwx_S, nw_s1, nw_pII, nw_pA, nw_tIs, nw_vis, nw_jpx, Option.isSome_some, Option.getD_some, nw_popn, nw_rok, nw_wok, nw_isR, nw_cd, nw_at, nw_put, nw_nl0, nw_nlS, nw_no2s, nw_ft, nw_l01, nw_ak, nw_tsw, nw_flat, Value.category, List.mem_cons, List.not_mem_nil, List.length_cons, List.length_nil, or_false, false_or, or_true, true_or, and_true, true_and, and_false, false_and, if_true, if_false, Option.some.injEq, Prod.mk.injEq, and_assoc, exists_and_left, exists_eq_left, exists_eq_left', exists_const, nw_ks, nw_f4, nw_fvs, nw_some, Nat.reduceAdd, nw_sz_I, nw_kd_I, nw_ln_I, nw_rf_I, nw_L_I, nw_I_I, nw_sz_L, nw_kd_L, nw_ln_L, nw_rf_L, nw_I_L, nw_L_L, nw_ob_I, nw_ob_L, nw_obr_I, nw_obr_L, nI_add, nw_b0, nw_b1, nw_b01, not_false_eq_true, not_true_eq_false, false_implies, true_implies, Classical.not_not, nw_i10, decide_eq_false_iff_not, decide_eq_true_eq, ne_eq, Option.toList_some, Option.toList_none, List.cons_append, List.nil_append, reduceIte, Nat.reduceEqDiff, Nat.reduceLT, Nat.reduceLeDiff, Nat.reduceSub, Nat.reduceMul, reduceCtorEq, ↓nwx_aaload, ↓nwx_aload_n, ↓nwx_getfield, ↓nwx_iconst, ↓nwx_ifCond, ↓nwx_iload_n, ↓nwx_ireturn, dmNf_post_0, rmNf_post, nw_b_f]; try simp (disch := omega) only [nw_b0, nw_b1, nw_ilt, nw_ile, nw_ieq, nw_icl, nw_iin, nI_add, and_true, true_and, and_false, false_and, not_false_eq_true, not_true_eq_false, false_implies, true_implies, Classical.not_not, ne_eq, reduceIte, Nat.reduceEqDiff, Nat.reduceLT, Nat.reduceLeDiff, Nat.reduceAdd, Nat.reduceSub, Nat.reduceMul, nw_b_f])
    exact no (fun q => hy q.1.1.1.2)
  have hy1 := hy
  obtain ⟨i, i1, i2, rfl⟩ := q_id_ok hy
  rw [hy1]
  have hcs : (nI s).toNatClampNeg = s := nI_clamp (by omega)
  have hci : (nI i).toNatClampNeg = i := nI_clamp (by omega)
  simp only [hcs, hci] at hp no
  have ha := nw_ca' hO i2
  have hj := hJ.2.2.2.1 i i1 i2
  have hsv := nw_cs hO hs
  have hv := nw_Ok_sv hO hs
  unfold nw_Sv at hv
  have v6 := hv.2.2.2.2.2.2.2.2.2.2.2.2.2.2.2.2.2.2.2.2.2.2.1
  have v3 := hv.2.2.2.2.2.2.2.2.2.2.2.2.2.2.2
  (apply V_s1 [29] 11; simp only [nwx_0, nwx_S, nw_s1, nw_pII, nw_pA, nw_tIs, nw_vis, nw_jpx, Option.isSome_some, Option.getD_some, nw_popn, nw_rok, nw_wok, nw_isR, nw_cd, nw_at, nw_put, nw_nl0, nw_nlS, nw_no2s, nw_ft, nw_l01, nw_ak, nw_tsw, nw_flat, Value.category, List.mem_cons, List.not_mem_nil, List.length_cons, List.length_nil, or_false, false_or, or_true, true_or, and_true, true_and, and_false, false_and, if_true, if_false, Option.some.injEq, Prod.mk.injEq, and_assoc, exists_and_left, exists_eq_left, exists_eq_left', exists_const, nw_ks, nw_f4, nw_fvs, nw_some, Nat.reduceAdd, nw_sz_I, nw_kd_I, nw_ln_I, nw_rf_I, nw_L_I, nw_I_I, nw_sz_L, nw_kd_L, nw_ln_L, nw_rf_L, nw_I_L, nw_L_L, nw_ob_I, nw_ob_L, nw_obr_I, nw_obr_L, nI_add, nw_b0, nw_b1, nw_b01, not_false_eq_true, not_true_eq_false, false_implies, true_implies, Classical.not_not, nw_i10, decide_eq_false_iff_not, decide_eq_true_eq, ne_eq, Option.toList_some, Option.toList_none, List.cons_append, List.nil_append, reduceIte, Nat.reduceEqDiff, Nat.reduceLT, Nat.reduceLeDiff, Nat.reduceSub, Nat.reduceMul, reduceCtorEq, ↓nwx_aaload, ↓nwx_aload_n, ↓nwx_getfield, ↓nwx_iconst, ↓nwx_ifCond, ↓nwx_iload_n, ↓nwx_ireturn, dmNf_post_0, rmNf_post, nw_b_t, hc, ha, hci]; try simp (disch := omega) only [nw_b0, nw_b1, nw_ilt, nw_ile, nw_ieq, nw_icl, nw_iin, nI_add, and_true, true_and, and_false, false_and, not_false_eq_true, not_true_eq_false, false_implies, true_implies, Classical.not_not, ne_eq, reduceIte, Nat.reduceEqDiff, Nat.reduceLT, Nat.reduceLeDiff, Nat.reduceAdd, Nat.reduceSub, Nat.reduceMul, nw_b_t, hc, ha, hci])
  refine ⟨by omega, ?_⟩
  obtain ⟨b1, b2, b3, b4, b5, b6⟩ := id hj
  have h5 : (nw_I w' (nw_A n + 1 + i) 0 = nI 0 ∧ S.1 5 i = nI 0) ∨ (nw_I w' (nw_A n + 1 + i) 0 = nI 1 ∧ ¬ S.1 5 i = nI 0 ∧ ∃ m, 1 ≤ m ∧ m ≤ 8 ∧ S.1 7 i = nI m) := by
    rcases b6 with c | c
    · exact Or.inl ⟨c.1, c.2.1⟩
    · exact Or.inr ⟨c.1, fun q => absurd c.2.1 (by rw [q]; decide), c.2.2.2.1⟩
  refine ⟨fun h0 => ?_, fun h0 => no (fun q => ?_)⟩
  case refine_2 =>
    rcases h5 with h5 | h5
    · exact q.1.1.2 h5.2
    · exact absurd (h5.1.symm.trans h0) (by decide)
  have hs4 : s < 4 := by omega
  obtain ⟨-, h5n, m, m1, m8, h7⟩ : _ ∧ _ ∧ _ := h5.resolve_left (fun q => h0 q.1)
  have e4 : nw_I w' (nw_A n + 1 + i) 4 = nI m := b4.trans h7
  have p46 : nI 0 ≤ z → z < nI 1 <<< (nI n &&& 31) → V mNf_post 46 [.ref 1, .int (nI s), .int (nI i), .int z, nw_u, nw_u] [] w' 0 0 (nw_rj n B w' p) := fun hz1 hz2 => by
    have hpno : ¬ q_pno S (nI s) (nI i) z := by
      unfold q_pno
      rw [j_g3 hJ, hci]
      exact fun q => q ⟨⟨⟨⟨hx1, hy1⟩, h5n⟩, hz1⟩, hz2⟩
    rw [if_neg hpno] at hp
    have f441 : q_p441 S s i → nw_rj n B w' p (some (.int (nI 441))) w' := fun h => by
      rw [if_pos h] at hp
      rw [hp]
      exact nw_rj_q hJ
    obtain ⟨o1, o2⟩ := j_open hJ hs
    obtain ⟨n1, n2⟩ := j_known hJ hs i1 i2
    (apply V_s1 [] 15; simp only [nwx_0, nwx_S, nw_s1, nw_pII, nw_pA, nw_tIs, nw_vis, nw_jpx, Option.isSome_some, Option.getD_some, nw_popn, nw_rok, nw_wok, nw_isR, nw_cd, nw_at, nw_put, nw_nl0, nw_nlS, nw_no2s, nw_ft, nw_l01, nw_ak, nw_tsw, nw_flat, Value.category, List.mem_cons, List.not_mem_nil, List.length_cons, List.length_nil, or_false, false_or, or_true, true_or, and_true, true_and, and_false, false_and, if_true, if_false, Option.some.injEq, Prod.mk.injEq, and_assoc, exists_and_left, exists_eq_left, exists_eq_left', exists_const, nw_ks, nw_f4, nw_fvs, nw_some, Nat.reduceAdd, nw_sz_I, nw_kd_I, nw_ln_I, nw_rf_I, nw_L_I, nw_I_I, nw_sz_L, nw_kd_L, nw_ln_L, nw_rf_L, nw_I_L, nw_L_L, nw_ob_I, nw_ob_L, nw_obr_I, nw_obr_L, nI_add, nw_b0, nw_b1, nw_b01, not_false_eq_true, not_true_eq_false, false_implies, true_implies, Classical.not_not, nw_i10, decide_eq_false_iff_not, decide_eq_true_eq, ne_eq, Option.toList_some, Option.toList_none, List.cons_append, List.nil_append, reduceIte, Nat.reduceEqDiff, Nat.reduceLT, Nat.reduceLeDiff, Nat.reduceSub, Nat.reduceMul, reduceCtorEq, ↓nwx_aaload, ↓nwx_aload, ↓nwx_aload_n, ↓nwx_astore, ↓nwx_getfield, ↓nwx_iload_n, ↓nwx_invokevirtual, dmNf_post_0, rmNf_post, hc, hsv, hv, ha, hcs, hci]; try simp (disch := omega) only [nw_b0, nw_b1, nw_ilt, nw_ile, nw_ieq, nw_icl, nw_iin, nI_add, and_true, true_and, and_false, false_and, not_false_eq_true, not_true_eq_false, false_implies, true_implies, Classical.not_not, ne_eq, reduceIte, Nat.reduceEqDiff, Nat.reduceLT, Nat.reduceLeDiff, Nat.reduceAdd, Nat.reduceSub, Nat.reduceMul, hc, hsv, hv, ha, hcs, hci])
    refine ⟨hs, by omega, nw_do0 (c_In_isOpen v6) ?_⟩
    rintro r w' ⟨rfl, rfl⟩
    (apply V_s1 [] 9; simp only [nwx_0, nwx_S, nw_s1, nw_pII, nw_pA, nw_tIs, nw_vis, nw_jpx, Option.isSome_some, Option.getD_some, nw_popn, nw_rok, nw_wok, nw_isR, nw_cd, nw_at, nw_put, nw_nl0, nw_nlS, nw_no2s, nw_ft, nw_l01, nw_ak, nw_tsw, nw_flat, Value.category, List.mem_cons, List.not_mem_nil, List.length_cons, List.length_nil, or_false, false_or, or_true, true_or, and_true, true_and, and_false, false_and, if_true, if_false, Option.some.injEq, Prod.mk.injEq, and_assoc, exists_and_left, exists_eq_left, exists_eq_left', exists_const, nw_ks, nw_f4, nw_fvs, nw_some, Nat.reduceAdd, nw_sz_I, nw_kd_I, nw_ln_I, nw_rf_I, nw_L_I, nw_I_I, nw_sz_L, nw_kd_L, nw_ln_L, nw_rf_L, nw_I_L, nw_L_L, nw_ob_I, nw_ob_L, nw_obr_I, nw_obr_L, nI_add, nw_b0, nw_b1, nw_b01, not_false_eq_true, not_true_eq_false, false_implies, true_implies, Classical.not_not, nw_i10, decide_eq_false_iff_not, decide_eq_true_eq, ne_eq, Option.toList_some, Option.toList_none, List.cons_append, List.nil_append, reduceIte, Nat.reduceEqDiff, Nat.reduceLT, Nat.reduceLeDiff, Nat.reduceSub, Nat.reduceMul, reduceCtorEq, ↓nwx_aload, ↓nwx_getfield, ↓nwx_ifCond, ↓nwx_iload_n, ↓nwx_invokevirtual, ↓nwx_ireturn, ↓nwx_sipush, dmNf_post_0, dmNf_post_1, rmNf_post, hv, o1]; try simp (disch := omega) only [nw_b0, nw_b1, nw_ilt, nw_ile, nw_ieq, nw_icl, nw_iin, nI_add, and_true, true_and, and_false, false_and, not_false_eq_true, not_true_eq_false, false_implies, true_implies, Classical.not_not, ne_eq, reduceIte, Nat.reduceEqDiff, Nat.reduceLT, Nat.reduceLeDiff, Nat.reduceAdd, Nat.reduceSub, Nat.reduceMul, hv, o1])
    refine ⟨fun h => f441 (Or.inl (o2.resolve_left h)), fun h => ?_⟩
    refine nw_do0 (c_En_knows (k := nw_S n s 4) i2 v3.1 v3.2.1 v3.2.2.2.1 v3.2.2.2.2.1) ?_
    rintro r w' ⟨rfl, rfl⟩
    (apply V_s1 [] 9; simp only [nwx_0, nwx_S, nw_s1, nw_pII, nw_pA, nw_tIs, nw_vis, nw_jpx, Option.isSome_some, Option.getD_some, nw_popn, nw_rok, nw_wok, nw_isR, nw_cd, nw_at, nw_put, nw_nl0, nw_nlS, nw_no2s, nw_ft, nw_l01, nw_ak, nw_tsw, nw_flat, Value.category, List.mem_cons, List.not_mem_nil, List.length_cons, List.length_nil, or_false, false_or, or_true, true_or, and_true, true_and, and_false, false_and, if_true, if_false, Option.some.injEq, Prod.mk.injEq, and_assoc, exists_and_left, exists_eq_left, exists_eq_left', exists_const, nw_ks, nw_f4, nw_fvs, nw_some, Nat.reduceAdd, nw_sz_I, nw_kd_I, nw_ln_I, nw_rf_I, nw_L_I, nw_I_I, nw_sz_L, nw_kd_L, nw_ln_L, nw_rf_L, nw_I_L, nw_L_L, nw_ob_I, nw_ob_L, nw_obr_I, nw_obr_L, nI_add, nw_b0, nw_b1, nw_b01, not_false_eq_true, not_true_eq_false, false_implies, true_implies, Classical.not_not, nw_i10, decide_eq_false_iff_not, decide_eq_true_eq, ne_eq, Option.toList_some, Option.toList_none, List.cons_append, List.nil_append, reduceIte, Nat.reduceEqDiff, Nat.reduceLT, Nat.reduceLeDiff, Nat.reduceSub, Nat.reduceMul, reduceCtorEq, ↓nwx_aload, ↓nwx_aload_n, ↓nwx_ifCond, ↓nwx_invokevirtual, ↓nwx_ireturn, ↓nwx_sipush, dmNf_post_1, rmNf_post, hc, hv, n1]; try simp (disch := omega) only [nw_b0, nw_b1, nw_ilt, nw_ile, nw_ieq, nw_icl, nw_iin, nI_add, and_true, true_and, and_false, false_and, not_false_eq_true, not_true_eq_false, false_implies, true_implies, Classical.not_not, ne_eq, reduceIte, Nat.reduceEqDiff, Nat.reduceLT, Nat.reduceLeDiff, Nat.reduceAdd, Nat.reduceSub, Nat.reduceMul, hc, hv, n1])
    refine ⟨fun h12 => ?_, fun h12 => f441 (Or.inr (Or.inl (n2.resolve_left h12)))⟩
    refine nw_do0 (c_Nf_canUse hs i2 hO) ?_
    rintro r w' ⟨rfl, rfl⟩
    rw [k_use_q hJ hs i1 i2]
    by_cases hu : q_useless S s i = true
    case pos =>
      rw [hu]
      (apply V_s1 [] 9; simp only [nwx_0, nwx_S, nw_s1, nw_pII, nw_pA, nw_tIs, nw_vis, nw_jpx, Option.isSome_some, Option.getD_some, nw_popn, nw_rok, nw_wok, nw_isR, nw_cd, nw_at, nw_put, nw_nl0, nw_nlS, nw_no2s, nw_ft, nw_l01, nw_ak, nw_tsw, nw_flat, Value.category, List.mem_cons, List.not_mem_nil, List.length_cons, List.length_nil, or_false, false_or, or_true, true_or, and_true, true_and, and_false, false_and, if_true, if_false, Option.some.injEq, Prod.mk.injEq, and_assoc, exists_and_left, exists_eq_left, exists_eq_left', exists_const, nw_ks, nw_f4, nw_fvs, nw_some, Nat.reduceAdd, nw_sz_I, nw_kd_I, nw_ln_I, nw_rf_I, nw_L_I, nw_I_I, nw_sz_L, nw_kd_L, nw_ln_L, nw_rf_L, nw_I_L, nw_L_L, nw_ob_I, nw_ob_L, nw_obr_I, nw_obr_L, nI_add, nw_b0, nw_b1, nw_b01, not_false_eq_true, not_true_eq_false, false_implies, true_implies, Classical.not_not, nw_i10, decide_eq_false_iff_not, decide_eq_true_eq, ne_eq, Option.toList_some, Option.toList_none, List.cons_append, List.nil_append, reduceIte, Nat.reduceEqDiff, Nat.reduceLT, Nat.reduceLeDiff, Nat.reduceSub, Nat.reduceMul, reduceCtorEq, ↓nwx_aload, ↓nwx_getfield, ↓nwx_ifCond, ↓nwx_invokevirtual, ↓nwx_ireturn, ↓nwx_sipush, dmNf_post_1, rmNf_post, nw_b_f, Bool.not_true]; try simp (disch := omega) only [nw_b0, nw_b1, nw_ilt, nw_ile, nw_ieq, nw_icl, nw_iin, nI_add, and_true, true_and, and_false, false_and, not_false_eq_true, not_true_eq_false, false_implies, true_implies, Classical.not_not, ne_eq, reduceIte, Nat.reduceEqDiff, Nat.reduceLT, Nat.reduceLeDiff, Nat.reduceAdd, Nat.reduceSub, Nat.reduceMul, nw_b_f, Bool.not_true])
      exact f441 (Or.inr (Or.inr (Or.inl hu)))
    rw [eq_false_of_ne_true hu]
    (apply V_s1 [] 9; simp only [nwx_0, nwx_S, nw_s1, nw_pII, nw_pA, nw_tIs, nw_vis, nw_jpx, Option.isSome_some, Option.getD_some, nw_popn, nw_rok, nw_wok, nw_isR, nw_cd, nw_at, nw_put, nw_nl0, nw_nlS, nw_no2s, nw_ft, nw_l01, nw_ak, nw_tsw, nw_flat, Value.category, List.mem_cons, List.not_mem_nil, List.length_cons, List.length_nil, or_false, false_or, or_true, true_or, and_true, true_and, and_false, false_and, if_true, if_false, Option.some.injEq, Prod.mk.injEq, and_assoc, exists_and_left, exists_eq_left, exists_eq_left', exists_const, nw_ks, nw_f4, nw_fvs, nw_some, Nat.reduceAdd, nw_sz_I, nw_kd_I, nw_ln_I, nw_rf_I, nw_L_I, nw_I_I, nw_sz_L, nw_kd_L, nw_ln_L, nw_rf_L, nw_I_L, nw_L_L, nw_ob_I, nw_ob_L, nw_obr_I, nw_obr_L, nI_add, nw_b0, nw_b1, nw_b01, not_false_eq_true, not_true_eq_false, false_implies, true_implies, Classical.not_not, nw_i10, decide_eq_false_iff_not, decide_eq_true_eq, ne_eq, Option.toList_some, Option.toList_none, List.cons_append, List.nil_append, reduceIte, Nat.reduceEqDiff, Nat.reduceLT, Nat.reduceLeDiff, Nat.reduceSub, Nat.reduceMul, reduceCtorEq, ↓nwx_aload, ↓nwx_getfield, ↓nwx_ifCond, ↓nwx_invokevirtual, ↓nwx_ireturn, ↓nwx_sipush, dmNf_post_1, rmNf_post, nw_b_t, Bool.not_false, ha, hv, e4]; try simp (disch := omega) only [nw_b0, nw_b1, nw_ilt, nw_ile, nw_ieq, nw_icl, nw_iin, nI_add, and_true, true_and, and_false, false_and, not_false_eq_true, not_true_eq_false, false_implies, true_implies, Classical.not_not, ne_eq, reduceIte, Nat.reduceEqDiff, Nat.reduceLT, Nat.reduceLeDiff, Nat.reduceAdd, Nat.reduceSub, Nat.reduceMul, nw_b_t, Bool.not_false, ha, hv, e4])
    refine nw_do0 (c_Se_lacksRoom m1 (by omega) hO hs) ?_
    rintro r w' ⟨y, rfl, rfl, x, hx, rfl⟩
    rw [j_lacks hJ hs m1 m8 h7 hx]
    by_cases hl : q_lacks S s i = true
    case pos =>
      rw [hl]
      (apply V_s1 [] 19; simp only [nwx_0, nwx_S, nw_s1, nw_pII, nw_pA, nw_tIs, nw_vis, nw_jpx, Option.isSome_some, Option.getD_some, nw_popn, nw_rok, nw_wok, nw_isR, nw_cd, nw_at, nw_put, nw_nl0, nw_nlS, nw_no2s, nw_ft, nw_l01, nw_ak, nw_tsw, nw_flat, Value.category, List.mem_cons, List.not_mem_nil, List.length_cons, List.length_nil, or_false, false_or, or_true, true_or, and_true, true_and, and_false, false_and, if_true, if_false, Option.some.injEq, Prod.mk.injEq, and_assoc, exists_and_left, exists_eq_left, exists_eq_left', exists_const, nw_ks, nw_f4, nw_fvs, nw_some, Nat.reduceAdd, nw_sz_I, nw_kd_I, nw_ln_I, nw_rf_I, nw_L_I, nw_I_I, nw_sz_L, nw_kd_L, nw_ln_L, nw_rf_L, nw_I_L, nw_L_L, nw_ob_I, nw_ob_L, nw_obr_I, nw_obr_L, nI_add, nw_b0, nw_b1, nw_b01, not_false_eq_true, not_true_eq_false, false_implies, true_implies, Classical.not_not, nw_i10, decide_eq_false_iff_not, decide_eq_true_eq, ne_eq, Option.toList_some, Option.toList_none, List.cons_append, List.nil_append, reduceIte, Nat.reduceEqDiff, Nat.reduceLT, Nat.reduceLeDiff, Nat.reduceSub, Nat.reduceMul, reduceCtorEq, ↓nwx_aload, ↓nwx_getfield, ↓nwx_iconst, ↓nwx_ifCond, ↓nwx_iload_n, ↓nwx_invokevirtual, ↓nwx_ior, ↓nwx_ireturn, ↓nwx_ishl, ↓nwx_putI, ↓nwx_putR, ↓nwx_sipush, dmNf_post_1, rmNf_post, nw_b_t]; try simp (disch := omega) only [nw_b0, nw_b1, nw_ilt, nw_ile, nw_ieq, nw_icl, nw_iin, nI_add, and_true, true_and, and_false, false_and, not_false_eq_true, not_true_eq_false, false_implies, true_implies, Classical.not_not, ne_eq, reduceIte, Nat.reduceEqDiff, Nat.reduceLT, Nat.reduceLeDiff, Nat.reduceAdd, Nat.reduceSub, Nat.reduceMul, nw_b_t])
      exact f441 (Or.inr (Or.inr (Or.inr hl)))
    rw [eq_false_of_ne_true hl]
    (apply V_s1 [] 19; simp only [nwx_0, nwx_S, nw_s1, nw_pII, nw_pA, nw_tIs, nw_vis, nw_jpx, Option.isSome_some, Option.getD_some, nw_popn, nw_rok, nw_wok, nw_isR, nw_cd, nw_at, nw_put, nw_nl0, nw_nlS, nw_no2s, nw_ft, nw_l01, nw_ak, nw_tsw, nw_flat, Value.category, List.mem_cons, List.not_mem_nil, List.length_cons, List.length_nil, or_false, false_or, or_true, true_or, and_true, true_and, and_false, false_and, if_true, if_false, Option.some.injEq, Prod.mk.injEq, and_assoc, exists_and_left, exists_eq_left, exists_eq_left', exists_const, nw_ks, nw_f4, nw_fvs, nw_some, Nat.reduceAdd, nw_sz_I, nw_kd_I, nw_ln_I, nw_rf_I, nw_L_I, nw_I_I, nw_sz_L, nw_kd_L, nw_ln_L, nw_rf_L, nw_I_L, nw_L_L, nw_ob_I, nw_ob_L, nw_obr_I, nw_obr_L, nI_add, nw_b0, nw_b1, nw_b01, not_false_eq_true, not_true_eq_false, false_implies, true_implies, Classical.not_not, nw_i10, decide_eq_false_iff_not, decide_eq_true_eq, ne_eq, Option.toList_some, Option.toList_none, List.cons_append, List.nil_append, reduceIte, Nat.reduceEqDiff, Nat.reduceLT, Nat.reduceLeDiff, Nat.reduceSub, Nat.reduceMul, reduceCtorEq, ↓nwx_aload, ↓nwx_getfield, ↓nwx_iconst, ↓nwx_ifCond, ↓nwx_iload_n, ↓nwx_invokevirtual, ↓nwx_ior, ↓nwx_ireturn, ↓nwx_ishl, ↓nwx_putI, ↓nwx_putR, ↓nwx_sipush, dmNf_post_1, rmNf_post, nw_b_f, ha, hv, e4]; try simp (disch := omega) only [nw_b0, nw_b1, nw_ilt, nw_ile, nw_ieq, nw_icl, nw_iin, nI_add, and_true, true_and, and_false, false_and, not_false_eq_true, not_true_eq_false, false_implies, true_implies, Classical.not_not, ne_eq, reduceIte, Nat.reduceEqDiff, Nat.reduceLT, Nat.reduceLeDiff, Nat.reduceAdd, Nat.reduceSub, Nat.reduceMul, nw_b_f, ha, hv, e4])
    rw [va_up_self, pk_un (by decide), e4]
    have h441 : ¬ q_p441 S s i := fun q => by
      rcases q with q | q | q | q
      · rw [h] at q
        exact absurd q (by decide)
      · rw [h12] at q
        exact absurd q (by decide)
      · exact hu q
      · exact hl q
    rw [if_neg h441] at hp
    obtain ⟨w1, hw1⟩ : ∃ w1, w1 = nw_setI w' (nw_A n + 1 + i) (upd (nw_I w' (nw_A n + 1 + i)) 1 (nI 1)) := ⟨_, rfl⟩
    rw [← hw1]
    obtain ⟨hJ1, hf1⟩ : nw_J n w1 (q_i S 9 i (nI 1)) B ∧ nw_fm n w' w1 := by
      rw [hw1]
      exact nw_J_sent hJ i1 i2 h5n
    have hl1 : ¬ q_lacks (q_i S 9 i (nI 1)) s i = true := by
      have : q_lacks (q_i S 9 i (nI 1)) s i = q_lacks S s i := by
        unfold q_lacks
        rw [q_room_9]
        rfl
      rw [this]
      exact hl
    obtain ⟨he, k, hr, hk, hall, hroom⟩ := j_room2 hJ1 hs m1 m8 (i := i) h7 hl1
    refine nw_do0 (c_Se_beginIntake (nI i) _ (-1) m1 (by omega) hk hroom hJ1.1 hs) ?_
    rintro r w2 ⟨rfl, rfl⟩
    (apply V_s1 [] 4; simp only [nwx_0, nwx_S, nw_s1, nw_pII, nw_pA, nw_tIs, nw_vis, nw_jpx, Option.isSome_some, Option.getD_some, nw_popn, nw_rok, nw_wok, nw_isR, nw_cd, nw_at, nw_put, nw_nl0, nw_nlS, nw_no2s, nw_ft, nw_l01, nw_ak, nw_tsw, nw_flat, Value.category, List.mem_cons, List.not_mem_nil, List.length_cons, List.length_nil, or_false, false_or, or_true, true_or, and_true, true_and, and_false, false_and, if_true, if_false, Option.some.injEq, Prod.mk.injEq, and_assoc, exists_and_left, exists_eq_left, exists_eq_left', exists_const, nw_ks, nw_f4, nw_fvs, nw_some, Nat.reduceAdd, nw_sz_I, nw_kd_I, nw_ln_I, nw_rf_I, nw_L_I, nw_I_I, nw_sz_L, nw_kd_L, nw_ln_L, nw_rf_L, nw_I_L, nw_L_L, nw_ob_I, nw_ob_L, nw_obr_I, nw_obr_L, nI_add, nw_b0, nw_b1, nw_b01, not_false_eq_true, not_true_eq_false, false_implies, true_implies, Classical.not_not, nw_i10, decide_eq_false_iff_not, decide_eq_true_eq, ne_eq, Option.toList_some, Option.toList_none, List.cons_append, List.nil_append, reduceIte, Nat.reduceEqDiff, Nat.reduceLT, Nat.reduceLeDiff, Nat.reduceSub, Nat.reduceMul, reduceCtorEq, ↓nwx_ireturn, ↓nwx_sipush, dmNf_post_1, rmNf_post]; try simp (disch := omega) only [nw_b0, nw_b1, nw_ilt, nw_ile, nw_ieq, nw_icl, nw_iin, nI_add, and_true, true_and, and_false, false_and, not_false_eq_true, not_true_eq_false, false_implies, true_implies, Classical.not_not, ne_eq, reduceIte, Nat.reduceEqDiff, Nat.reduceLT, Nat.reduceLeDiff, Nat.reduceAdd, Nat.reduceSub, Nat.reduceMul])
    rw [hp, q_begin_9]
    obtain ⟨g1, g2⟩ := nw_J_begin (way := z) (sd := -1) (p := z ||| nI 1 <<< (nI s &&& 31)) hJ1 hs i1 i2 pk_us h7 m1 m8 h12 h he hr hk hall (Or.inl rfl) rfl
    exact ⟨rfl, g1, nw_fm_t hf1 g2⟩
  (apply V_s1 [46] 13; simp only [nwx_0, nwx_S, nw_s1, nw_pII, nw_pA, nw_tIs, nw_vis, nw_jpx, Option.isSome_some, Option.getD_some, nw_popn, nw_rok, nw_wok, nw_isR, nw_cd, nw_at, nw_put, nw_nl0, nw_nlS, nw_no2s, nw_ft, nw_l01, nw_ak, nw_tsw, nw_flat, Value.category, List.mem_cons, List.not_mem_nil, List.length_cons, List.length_nil, or_false, false_or, or_true, true_or, and_true, true_and, and_false, false_and, if_true, if_false, Option.some.injEq, Prod.mk.injEq, and_assoc, exists_and_left, exists_eq_left, exists_eq_left', exists_const, nw_ks, nw_f4, nw_fvs, nw_some, Nat.reduceAdd, nw_sz_I, nw_kd_I, nw_ln_I, nw_rf_I, nw_L_I, nw_I_I, nw_sz_L, nw_kd_L, nw_ln_L, nw_rf_L, nw_I_L, nw_L_L, nw_ob_I, nw_ob_L, nw_obr_I, nw_obr_L, nI_add, nw_b0, nw_b1, nw_b01, not_false_eq_true, not_true_eq_false, false_implies, true_implies, Classical.not_not, nw_i10, decide_eq_false_iff_not, decide_eq_true_eq, ne_eq, Option.toList_some, Option.toList_none, List.cons_append, List.nil_append, reduceIte, Nat.reduceEqDiff, Nat.reduceLT, Nat.reduceLeDiff, Nat.reduceSub, Nat.reduceMul, reduceCtorEq, ↓nwx_aload_n, ↓nwx_arraylength, ↓nwx_getfield, ↓nwx_iconst, ↓nwx_ifCond, ↓nwx_if_icmp, ↓nwx_iload_n, ↓nwx_ireturn, ↓nwx_ishl, dmNf_post_0, rmNf_post, hc]; try simp (disch := omega) only [nw_b0, nw_b1, nw_ilt, nw_ile, nw_ieq, nw_icl, nw_iin, nI_add, and_true, true_and, and_false, false_and, not_false_eq_true, not_true_eq_false, false_implies, true_implies, Classical.not_not, ne_eq, reduceIte, Nat.reduceEqDiff, Nat.reduceLT, Nat.reduceLeDiff, Nat.reduceAdd, Nat.reduceSub, Nat.reduceMul, hc])
  exact ⟨fun q => no (fun k => absurd q (Int32.not_lt.mpr k.1.2)), fun q => ⟨fun k => p46 (Int32.not_lt.mp q) k, fun k => no (fun y => k y.2)⟩⟩
end NW
