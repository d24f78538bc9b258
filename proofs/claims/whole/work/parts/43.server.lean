/-! Server: what it answers -/
theorem nw_Ok_1 {n : Nat} {u w : nw_W} (h : u.1 = w.1) (hw : nw_Ok n w) : nw_Ok n u := by
  obtain ⟨a, b⟩ := u
  obtain ⟨c, d⟩ := w
  cases h
  exact hw
theorem nw_Ok_sv {n : Nat} {w : nw_W} (h : nw_Ok n w) {s : Nat} (hs : s < n) : nw_Sv n w s := (h.2.2.2.2 s hs).1
theorem nw_Ok_sg {n : Nat} {w : nw_W} (h : nw_Ok n w) {s g : Nat} (hs : s < n) (hg : g < 6) : nw_Sg n w s g := (h.2.2.2.2 s hs).2.1 g hg
theorem nw_Ok_st {n : Nat} {w : nw_W} (h : nw_Ok n w) {s t : Nat} (hs : s < n) (ht : t < n) : nw_St n w s t := (h.2.2.2.2 s hs).2.2 t ht
theorem nw_Sv_9 {n : Nat} {w : nw_W} {s : Nat} (h : nw_Sv n w s) : nw_obr w (nw_S n s 9) ∧ nw_obr w (nw_S n s 19) ∧ nw_oba w (nw_S n s 19) := by
  unfold nw_Sv at h
  exact ⟨nw_obr_of h.2.2.2.2.2.2.2.2.2.2.2.2.2.2.2.2.2.2.2.2.2.2.2.2.2.2.2.1 (by decide) (by decide), nw_obr_of h.2.2.2.2.2.2.2.2.2.2.2.2.2.2.2.2.2.2.2.2.2.2.2.2.2.2.2.2.2.2.2.2.2.2.2.1 (by decide) (by decide), nw_oba_of h.2.2.2.2.2.2.2.2.2.2.2.2.2.2.2.2.2.2.2.2.2.2.2.2.2.2.2.2.2.2.2.2.2.2.2.1 (by decide) (by decide)⟩
/-- is one of the groups carried? -/
def nw_car (x : Int32) (kp : Nat → Int32) : Nat → Bool
  | 0 => false
  | g + 1 => nw_car x kp g || (bt x g && decide (nI 0 < kp g))
theorem nw_car_mono {x : Int32} {kp : Nat → Int32} {g : Nat} (h : (bt x g && decide (nI 0 < kp g)) = true) : ∀ d, nw_car x kp (g + 1 + d) = true
  | 0 => by simp only [nw_car, Nat.add_zero, h, Bool.or_true]
  | d + 1 => by
    show (nw_car x kp (g + 1 + d) || _) = true
    rw [nw_car_mono h d, Bool.true_or]
section SV
variable {n s : Nat} {w : nw_W}
set_option maxRecDepth 20000 in
theorem c_Se_carriesSome (x : Int32) (hO : nw_Ok n w) (hs : s < n) : V mSe_carriesSome 0 (nw_ent mSe_carriesSome [.ref (nw_S n s 0), .int x]) [] w 0 0 (nw_ri1 (nw_b (nw_car x (nw_I w (nw_S n s 7)) 6)) w) := by
  have hv := nw_Ok_sv hO hs
  unfold nw_Sv at hv
  have loop : ∀ d g, g + d = 6 → nw_car x (nw_I w (nw_S n s 7)) g = false → V mSe_carriesSome 2 [.ref (nw_S n s 0), .int x, .int (nI g)] [] w 0 0 (nw_ri1 (nw_b (nw_car x (nw_I w (nw_S n s 7)) 6)) w) := by
    intro d
    induction d with
    | zero =>
      intro g hg hc
      have hg : g = 6 := by omega
      subst hg
      (apply V_s1 [2] 22; simp only [nwx_0, nwx_S, nw_s1, nw_pII, nw_pA, nw_tIs, nw_vis, nw_jpx, Option.isSome_some, Option.getD_some, nw_popn, nw_rok, nw_wok, nw_isR, nw_cd, nw_at, nw_put, nw_nl0, nw_nlS, nw_no2s, nw_ft, nw_l01, nw_ak, nw_tsw, nw_flat, Value.category, List.mem_cons, List.not_mem_nil, List.length_cons, List.length_nil, or_false, false_or, or_true, true_or, and_true, true_and, and_false, false_and, if_true, if_false, Option.some.injEq, Prod.mk.injEq, and_assoc, exists_and_left, exists_eq_left, exists_eq_left', exists_const, nw_ks, nw_f4, nw_fvs, nw_some, Nat.reduceAdd, nw_sz_I, nw_kd_I, nw_ln_I, nw_rf_I, nw_L_I, nw_I_I, nw_sz_L, nw_kd_L, nw_ln_L, nw_rf_L, nw_I_L, nw_L_L, nw_ob_I, nw_ob_L, nw_obr_I, nw_obr_L, nI_add, nw_b0, nw_b1, nw_b01, not_false_eq_true, not_true_eq_false, false_implies, true_implies, Classical.not_not, nw_i10, decide_eq_false_iff_not, decide_eq_true_eq, ne_eq, Option.toList_some, Option.toList_none, List.cons_append, List.nil_append, reduceIte, Nat.reduceEqDiff, Nat.reduceLT, Nat.reduceLeDiff, Nat.reduceSub, Nat.reduceMul, reduceCtorEq, ↓nwx_aload_n, ↓nwx_bipush, ↓nwx_getfield, ↓nwx_goto, ↓nwx_iaload, ↓nwx_iand, ↓nwx_iconst, ↓nwx_ifCond, ↓nwx_if_icmp, ↓nwx_iinc, ↓nwx_iload_n, ↓nwx_ireturn, ↓nwx_ishr, dmSe_carriesSome_0, rmSe_carriesSome, hv, nw_bit]; try simp (disch := omega) only [nw_b0, nw_b1, nw_ilt, nw_ile, nw_ieq, nw_icl, nw_iin, nI_add, and_true, true_and, and_false, false_and, not_false_eq_true, not_true_eq_false, false_implies, true_implies, Classical.not_not, ne_eq, reduceIte, Nat.reduceEqDiff, Nat.reduceLT, Nat.reduceLeDiff, Nat.reduceAdd, Nat.reduceSub, Nat.reduceMul, hv, nw_bit])
      exact nw_rb0 hc
    | succ d ih =>
      intro g hg hc
      have no : (bt x g && decide (nI 0 < nw_I w (nw_S n s 7) g)) = false → V mSe_carriesSome 2 [.ref (nw_S n s 0), .int x, .int (nI (g + 1))] [] w 0 0 (nw_ri1 (nw_b (nw_car x (nw_I w (nw_S n s 7)) 6)) w) := fun h => ih (g + 1) (by omega) (by
        show (nw_car x (nw_I w (nw_S n s 7)) g || _) = false
        rw [hc, h]
        rfl)
      (apply V_s1 [2] 22; simp only [nwx_0, nwx_S, nw_s1, nw_pII, nw_pA, nw_tIs, nw_vis, nw_jpx, Option.isSome_some, Option.getD_some, nw_popn, nw_rok, nw_wok, nw_isR, nw_cd, nw_at, nw_put, nw_nl0, nw_nlS, nw_no2s, nw_ft, nw_l01, nw_ak, nw_tsw, nw_flat, Value.category, List.mem_cons, List.not_mem_nil, List.length_cons, List.length_nil, or_false, false_or, or_true, true_or, and_true, true_and, and_false, false_and, if_true, if_false, Option.some.injEq, Prod.mk.injEq, and_assoc, exists_and_left, exists_eq_left, exists_eq_left', exists_const, nw_ks, nw_f4, nw_fvs, nw_some, Nat.reduceAdd, nw_sz_I, nw_kd_I, nw_ln_I, nw_rf_I, nw_L_I, nw_I_I, nw_sz_L, nw_kd_L, nw_ln_L, nw_rf_L, nw_I_L, nw_L_L, nw_ob_I, nw_ob_L, nw_obr_I, nw_obr_L, nI_add, nw_b0, nw_b1, nw_b01, not_false_eq_true, not_true_eq_false, false_implies, true_implies, Classical.not_not, nw_i10, decide_eq_false_iff_not, decide_eq_true_eq, ne_eq, Option.toList_some, Option.toList_none, List.cons_append, List.nil_append, reduceIte, Nat.reduceEqDiff, Nat.reduceLT, Nat.reduceLeDiff, Nat.reduceSub, Nat.reduceMul, reduceCtorEq, ↓nwx_aload_n, ↓nwx_bipush, ↓nwx_getfield, ↓nwx_goto, ↓nwx_iaload, ↓nwx_iand, ↓nwx_iconst, ↓nwx_ifCond, ↓nwx_if_icmp, ↓nwx_iinc, ↓nwx_iload_n, ↓nwx_ireturn, ↓nwx_ishr, dmSe_carriesSome_0, rmSe_carriesSome, hv, nw_bit]; try simp (disch := omega) only [nw_b0, nw_b1, nw_ilt, nw_ile, nw_ieq, nw_icl, nw_iin, nI_add, and_true, true_and, and_false, false_and, not_false_eq_true, not_true_eq_false, false_implies, true_implies, Classical.not_not, ne_eq, reduceIte, Nat.reduceEqDiff, Nat.reduceLT, Nat.reduceLeDiff, Nat.reduceAdd, Nat.reduceSub, Nat.reduceMul, hv, nw_bit])
      refine ⟨fun h => absurd h (by omega), fun _ => ⟨fun h => no (by rw [h]; rfl), fun h => ⟨by omega, fun h2 => no (by rw [decide_eq_false (Int32.not_lt.mpr h2)]; simp), fun h2 => nw_rb1 ?_⟩⟩⟩
      have h3 : (bt x g && decide (nI 0 < nw_I w (nw_S n s 7) g)) = true := by
        rw [Bool.and_eq_true]
        exact ⟨by simpa using h, decide_eq_true (Int32.not_le.mp h2)⟩
      have := nw_car_mono h3 d
      rw [show g + 1 + d = 6 by omega] at this
      exact this
  rw [emSe_carriesSome]
  (apply V_s1 [2] 4; simp only [nwx_0, nwx_S, nw_s1, nw_pII, nw_pA, nw_tIs, nw_vis, nw_jpx, Option.isSome_some, Option.getD_some, nw_popn, nw_rok, nw_wok, nw_isR, nw_cd, nw_at, nw_put, nw_nl0, nw_nlS, nw_no2s, nw_ft, nw_l01, nw_ak, nw_tsw, nw_flat, Value.category, List.mem_cons, List.not_mem_nil, List.length_cons, List.length_nil, or_false, false_or, or_true, true_or, and_true, true_and, and_false, false_and, if_true, if_false, Option.some.injEq, Prod.mk.injEq, and_assoc, exists_and_left, exists_eq_left, exists_eq_left', exists_const, nw_ks, nw_f4, nw_fvs, nw_some, Nat.reduceAdd, nw_sz_I, nw_kd_I, nw_ln_I, nw_rf_I, nw_L_I, nw_I_I, nw_sz_L, nw_kd_L, nw_ln_L, nw_rf_L, nw_I_L, nw_L_L, nw_ob_I, nw_ob_L, nw_obr_I, nw_obr_L, nI_add, nw_b0, nw_b1, nw_b01, not_false_eq_true, not_true_eq_false, false_implies, true_implies, Classical.not_not, nw_i10, decide_eq_false_iff_not, decide_eq_true_eq, ne_eq, Option.toList_some, Option.toList_none, List.cons_append, List.nil_append, reduceIte, Nat.reduceEqDiff, Nat.reduceLT, Nat.reduceLeDiff, Nat.reduceSub, Nat.reduceMul, reduceCtorEq, ↓nwx_iconst, ↓nwx_istore_n, dmSe_carriesSome_0, rmSe_carriesSome]; try simp (disch := omega) only [nw_b0, nw_b1, nw_ilt, nw_ile, nw_ieq, nw_icl, nw_iin, nI_add, and_true, true_and, and_false, false_and, not_false_eq_true, not_true_eq_false, false_implies, true_implies, Classical.not_not, ne_eq, reduceIte, Nat.reduceEqDiff, Nat.reduceLT, Nat.reduceLeDiff, Nat.reduceAdd, Nat.reduceSub, Nat.reduceMul])
  exact loop 6 0 rfl rfl
theorem nw_room_ex (F : Nat → Bool) {m : Nat} (hm : m ≤ 24) : ∃ x, nw_room F m x := by
  by_cases h : ∃ c, c + m ≤ 24 ∧ nw_all F c m
  · obtain ⟨c, ⟨h1, h2⟩, h3⟩ := pk_least (fun c => c + m ≤ 24 ∧ nw_all F c m) h
    exact ⟨nI c, Or.inl ⟨c, h1, rfl, h2, fun d hd ha => h3 d hd ⟨by omega, ha⟩⟩⟩
  · exact ⟨-1, Or.inr ⟨rfl, fun c hc ha => h ⟨c, hc, ha⟩⟩⟩
set_option maxRecDepth 20000 in
theorem c_Se_lacksRoom {m : Nat} (hm : 1 ≤ m) (hm2 : m ≤ 24) (hO : nw_Ok n w) (hs : s < n) : V mSe_lacksRoom 0 (nw_ent mSe_lacksRoom [.ref (nw_S n s 0), .int (nI m)]) [] w 0 0 (nw_rx (fun y => ∃ x, nw_room (nw_fr0 (nw_I w (nw_S n s 2))) m x ∧ y = nw_b (decide (nI 24 ≤ nw_I w (nw_S n s 3) 2) || decide (x = -1))) w) := by
  have hv := nw_Ok_sv hO hs
  unfold nw_Sv at hv
  rw [emSe_lacksRoom]
  (apply V_s1 [] 5; simp only [nwx_0, nwx_S, nw_s1, nw_pII, nw_pA, nw_tIs, nw_vis, nw_jpx, Option.isSome_some, Option.getD_some, nw_popn, nw_rok, nw_wok, nw_isR, nw_cd, nw_at, nw_put, nw_nl0, nw_nlS, nw_no2s, nw_ft, nw_l01, nw_ak, nw_tsw, nw_flat, Value.category, List.mem_cons, List.not_mem_nil, List.length_cons, List.length_nil, or_false, false_or, or_true, true_or, and_true, true_and, and_false, false_and, if_true, if_false, Option.some.injEq, Prod.mk.injEq, and_assoc, exists_and_left, exists_eq_left, exists_eq_left', exists_const, nw_ks, nw_f4, nw_fvs, nw_some, Nat.reduceAdd, nw_sz_I, nw_kd_I, nw_ln_I, nw_rf_I, nw_L_I, nw_I_I, nw_sz_L, nw_kd_L, nw_ln_L, nw_rf_L, nw_I_L, nw_L_L, nw_ob_I, nw_ob_L, nw_obr_I, nw_obr_L, nI_add, nw_b0, nw_b1, nw_b01, not_false_eq_true, not_true_eq_false, false_implies, true_implies, Classical.not_not, nw_i10, decide_eq_false_iff_not, decide_eq_true_eq, ne_eq, Option.toList_some, Option.toList_none, List.cons_append, List.nil_append, reduceIte, Nat.reduceEqDiff, Nat.reduceLT, Nat.reduceLeDiff, Nat.reduceSub, Nat.reduceMul, reduceCtorEq, ↓nwx_aload_n, ↓nwx_getfield, ↓nwx_invokevirtual, dmSe_lacksRoom_0, rmSe_lacksRoom, hv]; try simp (disch := omega) only [nw_b0, nw_b1, nw_ilt, nw_ile, nw_ieq, nw_icl, nw_iin, nI_add, and_true, true_and, and_false, false_and, not_false_eq_true, not_true_eq_false, false_implies, true_implies, Classical.not_not, ne_eq, reduceIte, Nat.reduceEqDiff, Nat.reduceLT, Nat.reduceLeDiff, Nat.reduceAdd, Nat.reduceSub, Nat.reduceMul, hv])
  refine nw_do0 (c_En_isFull hv.2.2.2.2.2.2.2.2.2.2.2.2.2.2.2.1) ?_
  rintro r w' ⟨rfl, rfl⟩
  (apply V_s1 [] 10; simp only [nwx_0, nwx_S, nw_s1, nw_pII, nw_pA, nw_tIs, nw_vis, nw_jpx, Option.isSome_some, Option.getD_some, nw_popn, nw_rok, nw_wok, nw_isR, nw_cd, nw_at, nw_put, nw_nl0, nw_nlS, nw_no2s, nw_ft, nw_l01, nw_ak, nw_tsw, nw_flat, Value.category, List.mem_cons, List.not_mem_nil, List.length_cons, List.length_nil, or_false, false_or, or_true, true_or, and_true, true_and, and_false, false_and, if_true, if_false, Option.some.injEq, Prod.mk.injEq, and_assoc, exists_and_left, exists_eq_left, exists_eq_left', exists_const, nw_ks, nw_f4, nw_fvs, nw_some, Nat.reduceAdd, nw_sz_I, nw_kd_I, nw_ln_I, nw_rf_I, nw_L_I, nw_I_I, nw_sz_L, nw_kd_L, nw_ln_L, nw_rf_L, nw_I_L, nw_L_L, nw_ob_I, nw_ob_L, nw_obr_I, nw_obr_L, nI_add, nw_b0, nw_b1, nw_b01, not_false_eq_true, not_true_eq_false, false_implies, true_implies, Classical.not_not, nw_i10, decide_eq_false_iff_not, decide_eq_true_eq, ne_eq, Option.toList_some, Option.toList_none, List.cons_append, List.nil_append, reduceIte, Nat.reduceEqDiff, Nat.reduceLT, Nat.reduceLeDiff, Nat.reduceSub, Nat.reduceMul, reduceCtorEq, ↓nwx_aload_n, ↓nwx_getfield, ↓nwx_goto, ↓nwx_iconst, ↓nwx_ifCond, ↓nwx_iload_n, ↓nwx_invokevirtual, ↓nwx_ireturn, dmSe_lacksRoom_0, rmSe_lacksRoom, hv]; try simp (disch := omega) only [nw_b0, nw_b1, nw_ilt, nw_ile, nw_ieq, nw_icl, nw_iin, nI_add, and_true, true_and, and_false, false_and, not_false_eq_true, not_true_eq_false, false_implies, true_implies, Classical.not_not, ne_eq, reduceIte, Nat.reduceEqDiff, Nat.reduceLT, Nat.reduceLeDiff, Nat.reduceAdd, Nat.reduceSub, Nat.reduceMul, hv])
  refine ⟨fun h => ?_, fun h => ?_⟩
  · obtain ⟨x, hx⟩ := nw_room_ex (nw_fr0 (nw_I w' (nw_S n s 2))) hm2
    refine ⟨_, rfl, rfl, x, hx, ?_⟩
    rw [decide_eq_true h, Bool.true_or]
    rfl
  · refine nw_do0 (c_Sp_placeFor (o := nw_S n s 2) hm hm2 hv.2.2.2.2.2.2.2.2.2.2.2.1 hv.2.2.2.2.2.2.2.2.2.2.2.2.1 hv.2.2.2.2.2.2.2.2.2.2.2.2.2.1 hv.2.2.2.2.2.2.2.2.2.2.2.2.2.2.1) ?_
    rintro r w' ⟨x, rfl, rfl, hx⟩
    (apply V_s1 [] 8; simp only [nwx_0, nwx_S, nw_s1, nw_pII, nw_pA, nw_tIs, nw_vis, nw_jpx, Option.isSome_some, Option.getD_some, nw_popn, nw_rok, nw_wok, nw_isR, nw_cd, nw_at, nw_put, nw_nl0, nw_nlS, nw_no2s, nw_ft, nw_l01, nw_ak, nw_tsw, nw_flat, Value.category, List.mem_cons, List.not_mem_nil, List.length_cons, List.length_nil, or_false, false_or, or_true, true_or, and_true, true_and, and_false, false_and, if_true, if_false, Option.some.injEq, Prod.mk.injEq, and_assoc, exists_and_left, exists_eq_left, exists_eq_left', exists_const, nw_ks, nw_f4, nw_fvs, nw_some, Nat.reduceAdd, nw_sz_I, nw_kd_I, nw_ln_I, nw_rf_I, nw_L_I, nw_I_I, nw_sz_L, nw_kd_L, nw_ln_L, nw_rf_L, nw_I_L, nw_L_L, nw_ob_I, nw_ob_L, nw_obr_I, nw_obr_L, nI_add, nw_b0, nw_b1, nw_b01, not_false_eq_true, not_true_eq_false, false_implies, true_implies, Classical.not_not, nw_i10, decide_eq_false_iff_not, decide_eq_true_eq, ne_eq, Option.toList_some, Option.toList_none, List.cons_append, List.nil_append, reduceIte, Nat.reduceEqDiff, Nat.reduceLT, Nat.reduceLeDiff, Nat.reduceSub, Nat.reduceMul, reduceCtorEq, ↓nwx_goto, ↓nwx_iconst, ↓nwx_if_icmp, ↓nwx_ireturn, dmSe_lacksRoom_0, rmSe_lacksRoom, hv]; try simp (disch := omega) only [nw_b0, nw_b1, nw_ilt, nw_ile, nw_ieq, nw_icl, nw_iin, nI_add, and_true, true_and, and_false, false_and, not_false_eq_true, not_true_eq_false, false_implies, true_implies, Classical.not_not, ne_eq, reduceIte, Nat.reduceEqDiff, Nat.reduceLT, Nat.reduceLeDiff, Nat.reduceAdd, Nat.reduceSub, Nat.reduceMul, hv])
    refine ⟨fun h2 => ⟨_, rfl, rfl, x, hx, ?_⟩, fun h2 => ⟨_, rfl, rfl, x, hx, ?_⟩⟩
    · rw [decide_eq_false h, decide_eq_false h2]
      rfl
    · rw [decide_eq_false h, decide_eq_true h2]
      rfl
def nw_has (f : Nat → Int32) : Nat → Bool
  | 0 => false
  | g + 1 => nw_has f g || decide (f g ≠ nI 0)
theorem nw_has_mono {f : Nat → Int32} {g : Nat} (h : f g ≠ nI 0) : ∀ d, nw_has f (g + 1 + d) = true
  | 0 => by simp [nw_has, h]
  | d + 1 => by
    show (nw_has f (g + 1 + d) || _) = true
    rw [nw_has_mono h d, Bool.true_or]
set_option maxRecDepth 20000 in
theorem c_Se_hasNumber {i : Nat} (hi : i ≤ 40) (hO : nw_Ok n w) (hs : s < n) : V mSe_hasNumber 0 (nw_ent mSe_hasNumber [.ref (nw_S n s 0), .int (nI i)]) [] w 0 0 (nw_ri1 (nw_b (nw_has (fun g => nw_I w (nw_S n s (10 + g)) i) 6)) w) := by
  have hv := nw_Ok_sv hO hs
  have h9 := nw_Sv_9 hv
  unfold nw_Sv at hv
  have loop : ∀ d g, g + d = 6 → nw_has (fun g => nw_I w (nw_S n s (10 + g)) i) g = false → V mSe_hasNumber 2 [.ref (nw_S n s 0), .int (nI i), .int (nI g)] [] w 0 0 (nw_ri1 (nw_b (nw_has (fun g => nw_I w (nw_S n s (10 + g)) i) 6)) w) := by
    intro d
    induction d with
    | zero =>
      intro g hg hc
      have hg : g = 6 := by omega
      subst hg
      (apply V_s1 [2] 18; simp only [nwx_0, nwx_S, nw_s1, nw_pII, nw_pA, nw_tIs, nw_vis, nw_jpx, Option.isSome_some, Option.getD_some, nw_popn, nw_rok, nw_wok, nw_isR, nw_cd, nw_at, nw_put, nw_nl0, nw_nlS, nw_no2s, nw_ft, nw_l01, nw_ak, nw_tsw, nw_flat, Value.category, List.mem_cons, List.not_mem_nil, List.length_cons, List.length_nil, or_false, false_or, or_true, true_or, and_true, true_and, and_false, false_and, if_true, if_false, Option.some.injEq, Prod.mk.injEq, and_assoc, exists_and_left, exists_eq_left, exists_eq_left', exists_const, nw_ks, nw_f4, nw_fvs, nw_some, Nat.reduceAdd, nw_sz_I, nw_kd_I, nw_ln_I, nw_rf_I, nw_L_I, nw_I_I, nw_sz_L, nw_kd_L, nw_ln_L, nw_rf_L, nw_I_L, nw_L_L, nw_ob_I, nw_ob_L, nw_obr_I, nw_obr_L, nI_add, nw_b0, nw_b1, nw_b01, not_false_eq_true, not_true_eq_false, false_implies, true_implies, Classical.not_not, nw_i10, decide_eq_false_iff_not, decide_eq_true_eq, ne_eq, Option.toList_some, Option.toList_none, List.cons_append, List.nil_append, reduceIte, Nat.reduceEqDiff, Nat.reduceLT, Nat.reduceLeDiff, Nat.reduceSub, Nat.reduceMul, reduceCtorEq, ↓nwx_aaload, ↓nwx_aload_n, ↓nwx_bipush, ↓nwx_getfield, ↓nwx_goto, ↓nwx_iaload, ↓nwx_iconst, ↓nwx_ifCond, ↓nwx_if_icmp, ↓nwx_iinc, ↓nwx_iload_n, ↓nwx_ireturn, dmSe_hasNumber_0, rmSe_hasNumber]; try simp (disch := omega) only [nw_b0, nw_b1, nw_ilt, nw_ile, nw_ieq, nw_icl, nw_iin, nI_add, and_true, true_and, and_false, false_and, not_false_eq_true, not_true_eq_false, false_implies, true_implies, Classical.not_not, ne_eq, reduceIte, Nat.reduceEqDiff, Nat.reduceLT, Nat.reduceLeDiff, Nat.reduceAdd, Nat.reduceSub, Nat.reduceMul])
      exact nw_rb0 hc
    | succ d ih =>
      intro g hg hc
      have hgg := nw_Ok_sg hO hs (show g < 6 by omega)
      unfold nw_Sg at hgg
      have hcl : (nI g).toNatClampNeg = g := nI_clamp (by omega)
      (apply V_s1 [2] 18; simp only [nwx_0, nwx_S, nw_s1, nw_pII, nw_pA, nw_tIs, nw_vis, nw_jpx, Option.isSome_some, Option.getD_some, nw_popn, nw_rok, nw_wok, nw_isR, nw_cd, nw_at, nw_put, nw_nl0, nw_nlS, nw_no2s, nw_ft, nw_l01, nw_ak, nw_tsw, nw_flat, Value.category, List.mem_cons, List.not_mem_nil, List.length_cons, List.length_nil, or_false, false_or, or_true, true_or, and_true, true_and, and_false, false_and, if_true, if_false, Option.some.injEq, Prod.mk.injEq, and_assoc, exists_and_left, exists_eq_left, exists_eq_left', exists_const, nw_ks, nw_f4, nw_fvs, nw_some, Nat.reduceAdd, nw_sz_I, nw_kd_I, nw_ln_I, nw_rf_I, nw_L_I, nw_I_I, nw_sz_L, nw_kd_L, nw_ln_L, nw_rf_L, nw_I_L, nw_L_L, nw_ob_I, nw_ob_L, nw_obr_I, nw_obr_L, nI_add, nw_b0, nw_b1, nw_b01, not_false_eq_true, not_true_eq_false, false_implies, true_implies, Classical.not_not, nw_i10, decide_eq_false_iff_not, decide_eq_true_eq, ne_eq, Option.toList_some, Option.toList_none, List.cons_append, List.nil_append, reduceIte, Nat.reduceEqDiff, Nat.reduceLT, Nat.reduceLeDiff, Nat.reduceSub, Nat.reduceMul, reduceCtorEq, ↓nwx_aaload, ↓nwx_aload_n, ↓nwx_bipush, ↓nwx_getfield, ↓nwx_goto, ↓nwx_iaload, ↓nwx_iconst, ↓nwx_ifCond, ↓nwx_if_icmp, ↓nwx_iinc, ↓nwx_iload_n, ↓nwx_ireturn, dmSe_hasNumber_0, rmSe_hasNumber, hv, h9, hgg, hcl]; try simp (disch := omega) only [nw_b0, nw_b1, nw_ilt, nw_ile, nw_ieq, nw_icl, nw_iin, nI_add, and_true, true_and, and_false, false_and, not_false_eq_true, not_true_eq_false, false_implies, true_implies, Classical.not_not, ne_eq, reduceIte, Nat.reduceEqDiff, Nat.reduceLT, Nat.reduceLeDiff, Nat.reduceAdd, Nat.reduceSub, Nat.reduceMul, hv, h9, hgg, hcl])
      refine ⟨fun h => absurd h (by omega), fun _ => ⟨by omega, by omega, fun h => ih (g + 1) (by omega) ?_, fun h => nw_rb1 ?_⟩⟩
      · show (nw_has _ g || _) = false
        rw [hc]
        simp [h]
      · have := nw_has_mono (f := fun g => nw_I w (nw_S n s (10 + g)) i) h d
        rw [show g + 1 + d = 6 by omega] at this
        exact this
  rw [emSe_hasNumber]
  (apply V_s1 [2] 4; simp only [nwx_0, nwx_S, nw_s1, nw_pII, nw_pA, nw_tIs, nw_vis, nw_jpx, Option.isSome_some, Option.getD_some, nw_popn, nw_rok, nw_wok, nw_isR, nw_cd, nw_at, nw_put, nw_nl0, nw_nlS, nw_no2s, nw_ft, nw_l01, nw_ak, nw_tsw, nw_flat, Value.category, List.mem_cons, List.not_mem_nil, List.length_cons, List.length_nil, or_false, false_or, or_true, true_or, and_true, true_and, and_false, false_and, if_true, if_false, Option.some.injEq, Prod.mk.injEq, and_assoc, exists_and_left, exists_eq_left, exists_eq_left', exists_const, nw_ks, nw_f4, nw_fvs, nw_some, Nat.reduceAdd, nw_sz_I, nw_kd_I, nw_ln_I, nw_rf_I, nw_L_I, nw_I_I, nw_sz_L, nw_kd_L, nw_ln_L, nw_rf_L, nw_I_L, nw_L_L, nw_ob_I, nw_ob_L, nw_obr_I, nw_obr_L, nI_add, nw_b0, nw_b1, nw_b01, not_false_eq_true, not_true_eq_false, false_implies, true_implies, Classical.not_not, nw_i10, decide_eq_false_iff_not, decide_eq_true_eq, ne_eq, Option.toList_some, Option.toList_none, List.cons_append, List.nil_append, reduceIte, Nat.reduceEqDiff, Nat.reduceLT, Nat.reduceLeDiff, Nat.reduceSub, Nat.reduceMul, reduceCtorEq, ↓nwx_iconst, ↓nwx_istore_n, dmSe_hasNumber_0, rmSe_hasNumber]; try simp (disch := omega) only [nw_b0, nw_b1, nw_ilt, nw_ile, nw_ieq, nw_icl, nw_iin, nI_add, and_true, true_and, and_false, false_and, not_false_eq_true, not_true_eq_false, false_implies, true_implies, Classical.not_not, ne_eq, reduceIte, Nat.reduceEqDiff, Nat.reduceLT, Nat.reduceLeDiff, Nat.reduceAdd, Nat.reduceSub, Nat.reduceMul])
  exact loop 6 0 rfl rfl
set_option maxRecDepth 20000 in
theorem c_Se_nextNumber {g : Nat} (x : Int32) (hg : g < 6) (hO : nw_Ok n w) (hs : s < n) : V mSe_nextNumber 0 (nw_ent mSe_nextNumber [.ref (nw_S n s 0), .int (nI g), .int x]) [] w 0 0 (nw_ri1 (nw_nx (nw_I w (nw_S n s (10 + g))) x 40) w) := by
  have hv := nw_Ok_sv hO hs
  have h9 := nw_Sv_9 hv
  unfold nw_Sv at hv
  have hgg := nw_Ok_sg hO hs hg
  unfold nw_Sg at hgg
  have hcl : (nI g).toNatClampNeg = g := nI_clamp (by omega)
  have loop : ∀ d k, k + d = 40 → ∀ v, V mSe_nextNumber 5 [.ref (nw_S n s 0), .int (nI g), .int x, .int (nw_nx (nw_I w (nw_S n s (10 + g))) x k), .int (nI (k + 1)), v] [] w 0 0 (nw_ri1 (nw_nx (nw_I w (nw_S n s (10 + g))) x 40) w) := by
    intro d
    induction d with
    | zero =>
      intro k hk v
      have hk : k = 40 := by omega
      subst hk
      (apply V_s1 [5] 27; simp only [nwx_0, nwx_S, nw_s1, nw_pII, nw_pA, nw_tIs, nw_vis, nw_jpx, Option.isSome_some, Option.getD_some, nw_popn, nw_rok, nw_wok, nw_isR, nw_cd, nw_at, nw_put, nw_nl0, nw_nlS, nw_no2s, nw_ft, nw_l01, nw_ak, nw_tsw, nw_flat, Value.category, List.mem_cons, List.not_mem_nil, List.length_cons, List.length_nil, or_false, false_or, or_true, true_or, and_true, true_and, and_false, false_and, if_true, if_false, Option.some.injEq, Prod.mk.injEq, and_assoc, exists_and_left, exists_eq_left, exists_eq_left', exists_const, nw_ks, nw_f4, nw_fvs, nw_some, Nat.reduceAdd, nw_sz_I, nw_kd_I, nw_ln_I, nw_rf_I, nw_L_I, nw_I_I, nw_sz_L, nw_kd_L, nw_ln_L, nw_rf_L, nw_I_L, nw_L_L, nw_ob_I, nw_ob_L, nw_obr_I, nw_obr_L, nI_add, nw_b0, nw_b1, nw_b01, not_false_eq_true, not_true_eq_false, false_implies, true_implies, Classical.not_not, nw_i10, decide_eq_false_iff_not, decide_eq_true_eq, ne_eq, Option.toList_some, Option.toList_none, List.cons_append, List.nil_append, reduceIte, Nat.reduceEqDiff, Nat.reduceLT, Nat.reduceLeDiff, Nat.reduceSub, Nat.reduceMul, reduceCtorEq, ↓nwx_aaload, ↓nwx_aload_n, ↓nwx_bipush, ↓nwx_getfield, ↓nwx_goto, ↓nwx_iaload, ↓nwx_iconst, ↓nwx_if_icmp, ↓nwx_iinc, ↓nwx_iload, ↓nwx_iload_n, ↓nwx_ireturn, ↓nwx_istore, ↓nwx_istore_n, dmSe_nextNumber_0, rmSe_nextNumber]; try simp (disch := omega) only [nw_b0, nw_b1, nw_ilt, nw_ile, nw_ieq, nw_icl, nw_iin, nI_add, and_true, true_and, and_false, false_and, not_false_eq_true, not_true_eq_false, false_implies, true_implies, Classical.not_not, ne_eq, reduceIte, Nat.reduceEqDiff, Nat.reduceLT, Nat.reduceLeDiff, Nat.reduceAdd, Nat.reduceSub, Nat.reduceMul])
      exact ⟨rfl, rfl⟩
    | succ d ih =>
      intro k hk v
      have same : ¬ (x < nw_I w (nw_S n s (10 + g)) (k + 1) ∧ (nw_nx (nw_I w (nw_S n s (10 + g))) x k = -1 ∨ nw_I w (nw_S n s (10 + g)) (k + 1) < nw_nx (nw_I w (nw_S n s (10 + g))) x k)) → ∀ v, V mSe_nextNumber 5 [.ref (nw_S n s 0), .int (nI g), .int x, .int (nw_nx (nw_I w (nw_S n s (10 + g))) x k), .int (nI (k + 1 + 1)), v] [] w 0 0 (nw_ri1 (nw_nx (nw_I w (nw_S n s (10 + g))) x 40) w) := fun hc v => by
        have := ih (k + 1) (by omega) v
        rw [show nw_nx (nw_I w (nw_S n s (10 + g))) x (k + 1) = nw_nx (nw_I w (nw_S n s (10 + g))) x k from if_neg hc] at this
        exact this
      have take : (x < nw_I w (nw_S n s (10 + g)) (k + 1) ∧ (nw_nx (nw_I w (nw_S n s (10 + g))) x k = -1 ∨ nw_I w (nw_S n s (10 + g)) (k + 1) < nw_nx (nw_I w (nw_S n s (10 + g))) x k)) → ∀ v, V mSe_nextNumber 5 [.ref (nw_S n s 0), .int (nI g), .int x, .int (nw_I w (nw_S n s (10 + g)) (k + 1)), .int (nI (k + 1 + 1)), v] [] w 0 0 (nw_ri1 (nw_nx (nw_I w (nw_S n s (10 + g))) x 40) w) := fun hc v => by
        have := ih (k + 1) (by omega) v
        rw [show nw_nx (nw_I w (nw_S n s (10 + g))) x (k + 1) = nw_I w (nw_S n s (10 + g)) (k + 1) from if_pos hc] at this
        exact this
      (apply V_s1 [5] 27; simp only [nwx_0, nwx_S, nw_s1, nw_pII, nw_pA, nw_tIs, nw_vis, nw_jpx, Option.isSome_some, Option.getD_some, nw_popn, nw_rok, nw_wok, nw_isR, nw_cd, nw_at, nw_put, nw_nl0, nw_nlS, nw_no2s, nw_ft, nw_l01, nw_ak, nw_tsw, nw_flat, Value.category, List.mem_cons, List.not_mem_nil, List.length_cons, List.length_nil, or_false, false_or, or_true, true_or, and_true, true_and, and_false, false_and, if_true, if_false, Option.some.injEq, Prod.mk.injEq, and_assoc, exists_and_left, exists_eq_left, exists_eq_left', exists_const, nw_ks, nw_f4, nw_fvs, nw_some, Nat.reduceAdd, nw_sz_I, nw_kd_I, nw_ln_I, nw_rf_I, nw_L_I, nw_I_I, nw_sz_L, nw_kd_L, nw_ln_L, nw_rf_L, nw_I_L, nw_L_L, nw_ob_I, nw_ob_L, nw_obr_I, nw_obr_L, nI_add, nw_b0, nw_b1, nw_b01, not_false_eq_true, not_true_eq_false, false_implies, true_implies, Classical.not_not, nw_i10, decide_eq_false_iff_not, decide_eq_true_eq, ne_eq, Option.toList_some, Option.toList_none, List.cons_append, List.nil_append, reduceIte, Nat.reduceEqDiff, Nat.reduceLT, Nat.reduceLeDiff, Nat.reduceSub, Nat.reduceMul, reduceCtorEq, ↓nwx_aaload, ↓nwx_aload_n, ↓nwx_bipush, ↓nwx_getfield, ↓nwx_goto, ↓nwx_iaload, ↓nwx_iconst, ↓nwx_if_icmp, ↓nwx_iinc, ↓nwx_iload, ↓nwx_iload_n, ↓nwx_ireturn, ↓nwx_istore, ↓nwx_istore_n, dmSe_nextNumber_0, rmSe_nextNumber, hv, h9, hgg, hcl]; try simp (disch := omega) only [nw_b0, nw_b1, nw_ilt, nw_ile, nw_ieq, nw_icl, nw_iin, nI_add, and_true, true_and, and_false, false_and, not_false_eq_true, not_true_eq_false, false_implies, true_implies, Classical.not_not, ne_eq, reduceIte, Nat.reduceEqDiff, Nat.reduceLT, Nat.reduceLeDiff, Nat.reduceAdd, Nat.reduceSub, Nat.reduceMul, hv, h9, hgg, hcl])
      refine ⟨fun h => absurd h (by omega), fun _ => ⟨by omega, by omega, fun h => same (fun q => absurd q.1 (Int32.not_lt.mpr h)) _, fun h => ⟨fun h2 => take ⟨Int32.not_le.mp h, Or.inl h2⟩ _, fun h2 => ⟨fun h3 => same (fun q => ?_) _, fun h3 => take ⟨Int32.not_le.mp h, Or.inr (Int32.not_le.mp h3)⟩ _⟩⟩⟩⟩
      rcases q.2 with q | q
      · exact h2 q
      · exact absurd q (Int32.not_lt.mpr h3)
  rw [emSe_nextNumber]
  (apply V_s1 [5] 6; simp only [nwx_0, nwx_S, nw_s1, nw_pII, nw_pA, nw_tIs, nw_vis, nw_jpx, Option.isSome_some, Option.getD_some, nw_popn, nw_rok, nw_wok, nw_isR, nw_cd, nw_at, nw_put, nw_nl0, nw_nlS, nw_no2s, nw_ft, nw_l01, nw_ak, nw_tsw, nw_flat, Value.category, List.mem_cons, List.not_mem_nil, List.length_cons, List.length_nil, or_false, false_or, or_true, true_or, and_true, true_and, and_false, false_and, if_true, if_false, Option.some.injEq, Prod.mk.injEq, and_assoc, exists_and_left, exists_eq_left, exists_eq_left', exists_const, nw_ks, nw_f4, nw_fvs, nw_some, Nat.reduceAdd, nw_sz_I, nw_kd_I, nw_ln_I, nw_rf_I, nw_L_I, nw_I_I, nw_sz_L, nw_kd_L, nw_ln_L, nw_rf_L, nw_I_L, nw_L_L, nw_ob_I, nw_ob_L, nw_obr_I, nw_obr_L, nI_add, nw_b0, nw_b1, nw_b01, not_false_eq_true, not_true_eq_false, false_implies, true_implies, Classical.not_not, nw_i10, decide_eq_false_iff_not, decide_eq_true_eq, ne_eq, Option.toList_some, Option.toList_none, List.cons_append, List.nil_append, reduceIte, Nat.reduceEqDiff, Nat.reduceLT, Nat.reduceLeDiff, Nat.reduceSub, Nat.reduceMul, reduceCtorEq, ↓nwx_iconst, ↓nwx_istore, ↓nwx_istore_n, dmSe_nextNumber_0, rmSe_nextNumber]; try simp (disch := omega) only [nw_b0, nw_b1, nw_ilt, nw_ile, nw_ieq, nw_icl, nw_iin, nI_add, and_true, true_and, and_false, false_and, not_false_eq_true, not_true_eq_false, false_implies, true_implies, Classical.not_not, ne_eq, reduceIte, Nat.reduceEqDiff, Nat.reduceLT, Nat.reduceLeDiff, Nat.reduceAdd, Nat.reduceSub, Nat.reduceMul])
  exact loop 40 0 rfl _
set_option maxRecDepth 20000 in
theorem c_Se_previousNumber {g : Nat} (x : Int32) (hg : g < 6) (hO : nw_Ok n w) (hs : s < n) : V mSe_previousNumber 0 (nw_ent mSe_previousNumber [.ref (nw_S n s 0), .int (nI g), .int x]) [] w 0 0 (nw_ri1 (nw_pv (nw_I w (nw_S n s (10 + g))) x 40) w) := by
  have hv := nw_Ok_sv hO hs
  have h9 := nw_Sv_9 hv
  unfold nw_Sv at hv
  have hgg := nw_Ok_sg hO hs hg
  unfold nw_Sg at hgg
  have hcl : (nI g).toNatClampNeg = g := nI_clamp (by omega)
  have loop : ∀ d k, k + d = 40 → ∀ v, V mSe_previousNumber 5 [.ref (nw_S n s 0), .int (nI g), .int x, .int (nw_pv (nw_I w (nw_S n s (10 + g))) x k), .int (nI (k + 1)), v] [] w 0 0 (nw_ri1 (nw_pv (nw_I w (nw_S n s (10 + g))) x 40) w) := by
    intro d
    induction d with
    | zero =>
      intro k hk v
      have hk : k = 40 := by omega
      subst hk
      (apply V_s1 [5] 26; simp only [nwx_0, nwx_S, nw_s1, nw_pII, nw_pA, nw_tIs, nw_vis, nw_jpx, Option.isSome_some, Option.getD_some, nw_popn, nw_rok, nw_wok, nw_isR, nw_cd, nw_at, nw_put, nw_nl0, nw_nlS, nw_no2s, nw_ft, nw_l01, nw_ak, nw_tsw, nw_flat, Value.category, List.mem_cons, List.not_mem_nil, List.length_cons, List.length_nil, or_false, false_or, or_true, true_or, and_true, true_and, and_false, false_and, if_true, if_false, Option.some.injEq, Prod.mk.injEq, and_assoc, exists_and_left, exists_eq_left, exists_eq_left', exists_const, nw_ks, nw_f4, nw_fvs, nw_some, Nat.reduceAdd, nw_sz_I, nw_kd_I, nw_ln_I, nw_rf_I, nw_L_I, nw_I_I, nw_sz_L, nw_kd_L, nw_ln_L, nw_rf_L, nw_I_L, nw_L_L, nw_ob_I, nw_ob_L, nw_obr_I, nw_obr_L, nI_add, nw_b0, nw_b1, nw_b01, not_false_eq_true, not_true_eq_false, false_implies, true_implies, Classical.not_not, nw_i10, decide_eq_false_iff_not, decide_eq_true_eq, ne_eq, Option.toList_some, Option.toList_none, List.cons_append, List.nil_append, reduceIte, Nat.reduceEqDiff, Nat.reduceLT, Nat.reduceLeDiff, Nat.reduceSub, Nat.reduceMul, reduceCtorEq, ↓nwx_aaload, ↓nwx_aload_n, ↓nwx_bipush, ↓nwx_getfield, ↓nwx_goto, ↓nwx_iaload, ↓nwx_ifCond, ↓nwx_if_icmp, ↓nwx_iinc, ↓nwx_iload, ↓nwx_iload_n, ↓nwx_ireturn, ↓nwx_istore, ↓nwx_istore_n, dmSe_previousNumber_0, rmSe_previousNumber]; try simp (disch := omega) only [nw_b0, nw_b1, nw_ilt, nw_ile, nw_ieq, nw_icl, nw_iin, nI_add, and_true, true_and, and_false, false_and, not_false_eq_true, not_true_eq_false, false_implies, true_implies, Classical.not_not, ne_eq, reduceIte, Nat.reduceEqDiff, Nat.reduceLT, Nat.reduceLeDiff, Nat.reduceAdd, Nat.reduceSub, Nat.reduceMul])
      exact ⟨rfl, rfl⟩
    | succ d ih =>
      intro k hk v
      have same : ¬ (nw_I w (nw_S n s (10 + g)) (k + 1) ≠ nI 0 ∧ nw_I w (nw_S n s (10 + g)) (k + 1) < x ∧ nw_pv (nw_I w (nw_S n s (10 + g))) x k < nw_I w (nw_S n s (10 + g)) (k + 1)) → ∀ v, V mSe_previousNumber 5 [.ref (nw_S n s 0), .int (nI g), .int x, .int (nw_pv (nw_I w (nw_S n s (10 + g))) x k), .int (nI (k + 1 + 1)), v] [] w 0 0 (nw_ri1 (nw_pv (nw_I w (nw_S n s (10 + g))) x 40) w) := fun hc v => by
        have := ih (k + 1) (by omega) v
        rw [show nw_pv (nw_I w (nw_S n s (10 + g))) x (k + 1) = nw_pv (nw_I w (nw_S n s (10 + g))) x k from if_neg hc] at this
        exact this
      have take : (nw_I w (nw_S n s (10 + g)) (k + 1) ≠ nI 0 ∧ nw_I w (nw_S n s (10 + g)) (k + 1) < x ∧ nw_pv (nw_I w (nw_S n s (10 + g))) x k < nw_I w (nw_S n s (10 + g)) (k + 1)) → ∀ v, V mSe_previousNumber 5 [.ref (nw_S n s 0), .int (nI g), .int x, .int (nw_I w (nw_S n s (10 + g)) (k + 1)), .int (nI (k + 1 + 1)), v] [] w 0 0 (nw_ri1 (nw_pv (nw_I w (nw_S n s (10 + g))) x 40) w) := fun hc v => by
        have := ih (k + 1) (by omega) v
        rw [show nw_pv (nw_I w (nw_S n s (10 + g))) x (k + 1) = nw_I w (nw_S n s (10 + g)) (k + 1) from if_pos hc] at this
        exact this
      (apply V_s1 [5] 26; simp only [nwx_0, nwx_S, nw_s1, nw_pII, nw_pA, nw_tIs, nw_vis, nw_jpx, Option.isSome_some, Option.getD_some, nw_popn, nw_rok, nw_wok, nw_isR, nw_cd, nw_at, nw_put, nw_nl0, nw_nlS, nw_no2s, nw_ft, nw_l01, nw_ak, nw_tsw, nw_flat, Value.category, List.mem_cons, List.not_mem_nil, List.length_cons, List.length_nil, or_false, false_or, or_true, true_or, and_true, true_and, and_false, false_and, if_true, if_false, Option.some.injEq, Prod.mk.injEq, and_assoc, exists_and_left, exists_eq_left, exists_eq_left', exists_const, nw_ks, nw_f4, nw_fvs, nw_some, Nat.reduceAdd, nw_sz_I, nw_kd_I, nw_ln_I, nw_rf_I, nw_L_I, nw_I_I, nw_sz_L, nw_kd_L, nw_ln_L, nw_rf_L, nw_I_L, nw_L_L, nw_ob_I, nw_ob_L, nw_obr_I, nw_obr_L, nI_add, nw_b0, nw_b1, nw_b01, not_false_eq_true, not_true_eq_false, false_implies, true_implies, Classical.not_not, nw_i10, decide_eq_false_iff_not, decide_eq_true_eq, ne_eq, Option.toList_some, Option.toList_none, List.cons_append, List.nil_append, reduceIte, Nat.reduceEqDiff, Nat.reduceLT, Nat.reduceLeDiff, Nat.reduceSub, Nat.reduceMul, reduceCtorEq, ↓nwx_aaload, ↓nwx_aload_n, ↓nwx_bipush, ↓nwx_getfield, ↓nwx_goto, ↓nwx_iaload, ↓nwx_ifCond, ↓nwx_if_icmp, ↓nwx_iinc, ↓nwx_iload, ↓nwx_iload_n, ↓nwx_ireturn, ↓nwx_istore, ↓nwx_istore_n, dmSe_previousNumber_0, rmSe_previousNumber, hv, h9, hgg, hcl]; try simp (disch := omega) only [nw_b0, nw_b1, nw_ilt, nw_ile, nw_ieq, nw_icl, nw_iin, nI_add, and_true, true_and, and_false, false_and, not_false_eq_true, not_true_eq_false, false_implies, true_implies, Classical.not_not, ne_eq, reduceIte, Nat.reduceEqDiff, Nat.reduceLT, Nat.reduceLeDiff, Nat.reduceAdd, Nat.reduceSub, Nat.reduceMul, hv, h9, hgg, hcl])
      exact ⟨fun h => absurd h (by omega), fun _ => ⟨by omega, by omega, fun h => same (fun q => q.1 h) _, fun h => ⟨fun h2 => same (fun q => absurd q.2.1 (Int32.not_lt.mpr h2)) _, fun h2 => ⟨fun h3 => same (fun q => absurd q.2.2 (Int32.not_lt.mpr h3)) _, fun h3 => take ⟨h, Int32.not_le.mp h2, Int32.not_le.mp h3⟩ _⟩⟩⟩⟩
  rw [emSe_previousNumber]
  (apply V_s1 [5] 6; simp only [nwx_0, nwx_S, nw_s1, nw_pII, nw_pA, nw_tIs, nw_vis, nw_jpx, Option.isSome_some, Option.getD_some, nw_popn, nw_rok, nw_wok, nw_isR, nw_cd, nw_at, nw_put, nw_nl0, nw_nlS, nw_no2s, nw_ft, nw_l01, nw_ak, nw_tsw, nw_flat, Value.category, List.mem_cons, List.not_mem_nil, List.length_cons, List.length_nil, or_false, false_or, or_true, true_or, and_true, true_and, and_false, false_and, if_true, if_false, Option.some.injEq, Prod.mk.injEq, and_assoc, exists_and_left, exists_eq_left, exists_eq_left', exists_const, nw_ks, nw_f4, nw_fvs, nw_some, Nat.reduceAdd, nw_sz_I, nw_kd_I, nw_ln_I, nw_rf_I, nw_L_I, nw_I_I, nw_sz_L, nw_kd_L, nw_ln_L, nw_rf_L, nw_I_L, nw_L_L, nw_ob_I, nw_ob_L, nw_obr_I, nw_obr_L, nI_add, nw_b0, nw_b1, nw_b01, not_false_eq_true, not_true_eq_false, false_implies, true_implies, Classical.not_not, nw_i10, decide_eq_false_iff_not, decide_eq_true_eq, ne_eq, Option.toList_some, Option.toList_none, List.cons_append, List.nil_append, reduceIte, Nat.reduceEqDiff, Nat.reduceLT, Nat.reduceLeDiff, Nat.reduceSub, Nat.reduceMul, reduceCtorEq, ↓nwx_iconst, ↓nwx_istore, ↓nwx_istore_n, dmSe_previousNumber_0, rmSe_previousNumber]; try simp (disch := omega) only [nw_b0, nw_b1, nw_ilt, nw_ile, nw_ieq, nw_icl, nw_iin, nI_add, and_true, true_and, and_false, false_and, not_false_eq_true, not_true_eq_false, false_implies, true_implies, Classical.not_not, ne_eq, reduceIte, Nat.reduceEqDiff, Nat.reduceLT, Nat.reduceLeDiff, Nat.reduceAdd, Nat.reduceSub, Nat.reduceMul])
  exact loop 40 0 rfl _
/-- the answer of a search by number -/
def nw_idn (f : Nat → Int32) (x : Int32) (k : Nat) : Int32 := if x = nI 0 ∨ nw_at1 f x k = 0 then -1 else nI (nw_at1 f x k)
set_option maxRecDepth 20000 in
theorem c_Se_idWithNumber {g : Nat} (x : Int32) (hg : g < 6) (hO : nw_Ok n w) (hs : s < n) : V mSe_idWithNumber 0 (nw_ent mSe_idWithNumber [.ref (nw_S n s 0), .int (nI g), .int x]) [] w 0 0 (nw_ri1 (nw_idn (nw_I w (nw_S n s (10 + g))) x 40) w) := by
  have hv := nw_Ok_sv hO hs
  have h9 := nw_Sv_9 hv
  unfold nw_Sv at hv
  have hgg := nw_Ok_sg hO hs hg
  unfold nw_Sg at hgg
  have hcl : (nI g).toNatClampNeg = g := nI_clamp (by omega)
  have loop : ∀ d k, k + d = 40 → (x = nI 0 ∨ nw_at1 (nw_I w (nw_S n s (10 + g))) x k = 0) → V mSe_idWithNumber 2 [.ref (nw_S n s 0), .int (nI g), .int x, .int (nI (k + 1))] [] w 0 0 (nw_ri1 (nw_idn (nw_I w (nw_S n s (10 + g))) x 40) w) := by
    intro d
    induction d with
    | zero =>
      intro k hk h0
      have hk : k = 40 := by omega
      subst hk
      (apply V_s1 [2] 21; simp only [nwx_0, nwx_S, nw_s1, nw_pII, nw_pA, nw_tIs, nw_vis, nw_jpx, Option.isSome_some, Option.getD_some, nw_popn, nw_rok, nw_wok, nw_isR, nw_cd, nw_at, nw_put, nw_nl0, nw_nlS, nw_no2s, nw_ft, nw_l01, nw_ak, nw_tsw, nw_flat, Value.category, List.mem_cons, List.not_mem_nil, List.length_cons, List.length_nil, or_false, false_or, or_true, true_or, and_true, true_and, and_false, false_and, if_true, if_false, Option.some.injEq, Prod.mk.injEq, and_assoc, exists_and_left, exists_eq_left, exists_eq_left', exists_const, nw_ks, nw_f4, nw_fvs, nw_some, Nat.reduceAdd, nw_sz_I, nw_kd_I, nw_ln_I, nw_rf_I, nw_L_I, nw_I_I, nw_sz_L, nw_kd_L, nw_ln_L, nw_rf_L, nw_I_L, nw_L_L, nw_ob_I, nw_ob_L, nw_obr_I, nw_obr_L, nI_add, nw_b0, nw_b1, nw_b01, not_false_eq_true, not_true_eq_false, false_implies, true_implies, Classical.not_not, nw_i10, decide_eq_false_iff_not, decide_eq_true_eq, ne_eq, Option.toList_some, Option.toList_none, List.cons_append, List.nil_append, reduceIte, Nat.reduceEqDiff, Nat.reduceLT, Nat.reduceLeDiff, Nat.reduceSub, Nat.reduceMul, reduceCtorEq, ↓nwx_aaload, ↓nwx_aload_n, ↓nwx_bipush, ↓nwx_getfield, ↓nwx_goto, ↓nwx_iaload, ↓nwx_iconst, ↓nwx_ifCond, ↓nwx_if_icmp, ↓nwx_iinc, ↓nwx_iload_n, ↓nwx_ireturn, dmSe_idWithNumber_0, rmSe_idWithNumber]; try simp (disch := omega) only [nw_b0, nw_b1, nw_ilt, nw_ile, nw_ieq, nw_icl, nw_iin, nI_add, and_true, true_and, and_false, false_and, not_false_eq_true, not_true_eq_false, false_implies, true_implies, Classical.not_not, ne_eq, reduceIte, Nat.reduceEqDiff, Nat.reduceLT, Nat.reduceLeDiff, Nat.reduceAdd, Nat.reduceSub, Nat.reduceMul])
      exact ⟨by unfold nw_idn; rw [if_pos h0], rfl⟩
    | succ d ih =>
      intro k hk h0
      (apply V_s1 [2] 21; simp only [nwx_0, nwx_S, nw_s1, nw_pII, nw_pA, nw_tIs, nw_vis, nw_jpx, Option.isSome_some, Option.getD_some, nw_popn, nw_rok, nw_wok, nw_isR, nw_cd, nw_at, nw_put, nw_nl0, nw_nlS, nw_no2s, nw_ft, nw_l01, nw_ak, nw_tsw, nw_flat, Value.category, List.mem_cons, List.not_mem_nil, List.length_cons, List.length_nil, or_false, false_or, or_true, true_or, and_true, true_and, and_false, false_and, if_true, if_false, Option.some.injEq, Prod.mk.injEq, and_assoc, exists_and_left, exists_eq_left, exists_eq_left', exists_const, nw_ks, nw_f4, nw_fvs, nw_some, Nat.reduceAdd, nw_sz_I, nw_kd_I, nw_ln_I, nw_rf_I, nw_L_I, nw_I_I, nw_sz_L, nw_kd_L, nw_ln_L, nw_rf_L, nw_I_L, nw_L_L, nw_ob_I, nw_ob_L, nw_obr_I, nw_obr_L, nI_add, nw_b0, nw_b1, nw_b01, not_false_eq_true, not_true_eq_false, false_implies, true_implies, Classical.not_not, nw_i10, decide_eq_false_iff_not, decide_eq_true_eq, ne_eq, Option.toList_some, Option.toList_none, List.cons_append, List.nil_append, reduceIte, Nat.reduceEqDiff, Nat.reduceLT, Nat.reduceLeDiff, Nat.reduceSub, Nat.reduceMul, reduceCtorEq, ↓nwx_aaload, ↓nwx_aload_n, ↓nwx_bipush, ↓nwx_getfield, ↓nwx_goto, ↓nwx_iaload, ↓nwx_iconst, ↓nwx_ifCond, ↓nwx_if_icmp, ↓nwx_iinc, ↓nwx_iload_n, ↓nwx_ireturn, dmSe_idWithNumber_0, rmSe_idWithNumber, hv, h9, hgg, hcl]; try simp (disch := omega) only [nw_b0, nw_b1, nw_ilt, nw_ile, nw_ieq, nw_icl, nw_iin, nI_add, and_true, true_and, and_false, false_and, not_false_eq_true, not_true_eq_false, false_implies, true_implies, Classical.not_not, ne_eq, reduceIte, Nat.reduceEqDiff, Nat.reduceLT, Nat.reduceLeDiff, Nat.reduceAdd, Nat.reduceSub, Nat.reduceMul, hv, h9, hgg, hcl])
      refine ⟨fun h => absurd h (by omega), fun _ => ⟨fun h => ih (k + 1) (by omega) (Or.inl h), fun h => ⟨by omega, by omega, fun h2 => ih (k + 1) (by omega) (Or.inr ?_), fun h2 => ⟨?_, rfl⟩⟩⟩⟩
      · rcases h0 with h0 | h0
        · exact absurd h0 h
        · simp only [nw_at1, h0, if_neg h2, ne_eq, not_true_eq_false, if_false]
      · rcases h0 with h0 | h0
        · exact absurd h0 h
        · have e : ∀ d, nw_at1 (nw_I w (nw_S n s (10 + g))) x (k + 1 + d) = k + 1 := by
            intro d
            induction d with
            | zero => simp only [Nat.add_zero, nw_at1, h0, if_pos h2, ne_eq, not_true_eq_false, if_false]
            | succ d ih =>
              show (if nw_at1 _ x (k + 1 + d) ≠ 0 then nw_at1 _ x (k + 1 + d) else _) = k + 1
              rw [ih, if_pos (by omega)]
          have e := e d
          rw [show k + 1 + d = 40 by omega] at e
          unfold nw_idn
          rw [e, if_neg (fun q => q.elim h (fun q => by omega))]
  rw [emSe_idWithNumber]
  (apply V_s1 [2] 4; simp only [nwx_0, nwx_S, nw_s1, nw_pII, nw_pA, nw_tIs, nw_vis, nw_jpx, Option.isSome_some, Option.getD_some, nw_popn, nw_rok, nw_wok, nw_isR, nw_cd, nw_at, nw_put, nw_nl0, nw_nlS, nw_no2s, nw_ft, nw_l01, nw_ak, nw_tsw, nw_flat, Value.category, List.mem_cons, List.not_mem_nil, List.length_cons, List.length_nil, or_false, false_or, or_true, true_or, and_true, true_and, and_false, false_and, if_true, if_false, Option.some.injEq, Prod.mk.injEq, and_assoc, exists_and_left, exists_eq_left, exists_eq_left', exists_const, nw_ks, nw_f4, nw_fvs, nw_some, Nat.reduceAdd, nw_sz_I, nw_kd_I, nw_ln_I, nw_rf_I, nw_L_I, nw_I_I, nw_sz_L, nw_kd_L, nw_ln_L, nw_rf_L, nw_I_L, nw_L_L, nw_ob_I, nw_ob_L, nw_obr_I, nw_obr_L, nI_add, nw_b0, nw_b1, nw_b01, not_false_eq_true, not_true_eq_false, false_implies, true_implies, Classical.not_not, nw_i10, decide_eq_false_iff_not, decide_eq_true_eq, ne_eq, Option.toList_some, Option.toList_none, List.cons_append, List.nil_append, reduceIte, Nat.reduceEqDiff, Nat.reduceLT, Nat.reduceLeDiff, Nat.reduceSub, Nat.reduceMul, reduceCtorEq, ↓nwx_iconst, ↓nwx_istore_n, dmSe_idWithNumber_0, rmSe_idWithNumber]; try simp (disch := omega) only [nw_b0, nw_b1, nw_ilt, nw_ile, nw_ieq, nw_icl, nw_iin, nI_add, and_true, true_and, and_false, false_and, not_false_eq_true, not_true_eq_false, false_implies, true_implies, Classical.not_not, ne_eq, reduceIte, Nat.reduceEqDiff, Nat.reduceLT, Nat.reduceLeDiff, Nat.reduceAdd, Nat.reduceSub, Nat.reduceMul])
  exact loop 40 0 rfl (Or.inr rfl)
set_option maxRecDepth 20000 in
theorem c_Se_countNumbers {g : Nat} (x y : Int32) (hg : g < 6) (hO : nw_Ok n w) (hs : s < n) : V mSe_countNumbers 0 (nw_ent mSe_countNumbers [.ref (nw_S n s 0), .int (nI g), .int x, .int y]) [] w 0 0 (nw_ri1 (nI (nw_ids (fun i => decide (nw_I w (nw_S n s (10 + g)) i ≠ nI 0 ∧ x ≤ nw_I w (nw_S n s (10 + g)) i ∧ nw_I w (nw_S n s (10 + g)) i ≤ y)))) w) := by
  have hv := nw_Ok_sv hO hs
  have h9 := nw_Sv_9 hv
  unfold nw_Sv at hv
  have hgg := nw_Ok_sg hO hs hg
  unfold nw_Sg at hgg
  have hcl : (nI g).toNatClampNeg = g := nI_clamp (by omega)
  unfold nw_ids
  generalize hp : (fun i => decide (nw_I w (nw_S n s (10 + g)) (i + 1) ≠ nI 0 ∧ x ≤ nw_I w (nw_S n s (10 + g)) (i + 1) ∧ nw_I w (nw_S n s (10 + g)) (i + 1) ≤ y)) = p
  have loop : ∀ d k, k + d = 40 → ∀ v, V mSe_countNumbers 6 [.ref (nw_S n s 0), .int (nI g), .int x, .int y, .int (nI (nw_cnt p k)), .int (nI (k + 1)), v] [] w 0 0 (nw_ri1 (nI (nw_cnt p 40)) w) := by
    intro d
    induction d with
    | zero =>
      intro k hk v
      have hk : k = 40 := by omega
      subst hk
      (apply V_s1 [6] 25; simp only [nwx_0, nwx_S, nw_s1, nw_pII, nw_pA, nw_tIs, nw_vis, nw_jpx, Option.isSome_some, Option.getD_some, nw_popn, nw_rok, nw_wok, nw_isR, nw_cd, nw_at, nw_put, nw_nl0, nw_nlS, nw_no2s, nw_ft, nw_l01, nw_ak, nw_tsw, nw_flat, Value.category, List.mem_cons, List.not_mem_nil, List.length_cons, List.length_nil, or_false, false_or, or_true, true_or, and_true, true_and, and_false, false_and, if_true, if_false, Option.some.injEq, Prod.mk.injEq, and_assoc, exists_and_left, exists_eq_left, exists_eq_left', exists_const, nw_ks, nw_f4, nw_fvs, nw_some, Nat.reduceAdd, nw_sz_I, nw_kd_I, nw_ln_I, nw_rf_I, nw_L_I, nw_I_I, nw_sz_L, nw_kd_L, nw_ln_L, nw_rf_L, nw_I_L, nw_L_L, nw_ob_I, nw_ob_L, nw_obr_I, nw_obr_L, nI_add, nw_b0, nw_b1, nw_b01, not_false_eq_true, not_true_eq_false, false_implies, true_implies, Classical.not_not, nw_i10, decide_eq_false_iff_not, decide_eq_true_eq, ne_eq, Option.toList_some, Option.toList_none, List.cons_append, List.nil_append, reduceIte, Nat.reduceEqDiff, Nat.reduceLT, Nat.reduceLeDiff, Nat.reduceSub, Nat.reduceMul, reduceCtorEq, ↓nwx_aaload, ↓nwx_aload_n, ↓nwx_bipush, ↓nwx_getfield, ↓nwx_goto, ↓nwx_iaload, ↓nwx_ifCond, ↓nwx_if_icmp, ↓nwx_iinc, ↓nwx_iload, ↓nwx_iload_n, ↓nwx_ireturn, ↓nwx_istore, dmSe_countNumbers_0, rmSe_countNumbers]; try simp (disch := omega) only [nw_b0, nw_b1, nw_ilt, nw_ile, nw_ieq, nw_icl, nw_iin, nI_add, and_true, true_and, and_false, false_and, not_false_eq_true, not_true_eq_false, false_implies, true_implies, Classical.not_not, ne_eq, reduceIte, Nat.reduceEqDiff, Nat.reduceLT, Nat.reduceLeDiff, Nat.reduceAdd, Nat.reduceSub, Nat.reduceMul])
      exact ⟨rfl, rfl⟩
    | succ d ih =>
      intro k hk v
      have hpk : p k = decide (nw_I w (nw_S n s (10 + g)) (k + 1) ≠ nI 0 ∧ x ≤ nw_I w (nw_S n s (10 + g)) (k + 1) ∧ nw_I w (nw_S n s (10 + g)) (k + 1) ≤ y) := by rw [← hp]
      have same : ¬ (nw_I w (nw_S n s (10 + g)) (k + 1) ≠ nI 0 ∧ x ≤ nw_I w (nw_S n s (10 + g)) (k + 1) ∧ nw_I w (nw_S n s (10 + g)) (k + 1) ≤ y) → ∀ v, V mSe_countNumbers 6 [.ref (nw_S n s 0), .int (nI g), .int x, .int y, .int (nI (nw_cnt p k)), .int (nI (k + 1 + 1)), v] [] w 0 0 (nw_ri1 (nI (nw_cnt p 40)) w) := fun hc v => by
        have := ih (k + 1) (by omega) v
        simp only [nw_cnt, hpk, decide_eq_false hc, Bool.false_eq_true, if_false] at this
        exact this
      (apply V_s1 [6] 25; simp only [nwx_0, nwx_S, nw_s1, nw_pII, nw_pA, nw_tIs, nw_vis, nw_jpx, Option.isSome_some, Option.getD_some, nw_popn, nw_rok, nw_wok, nw_isR, nw_cd, nw_at, nw_put, nw_nl0, nw_nlS, nw_no2s, nw_ft, nw_l01, nw_ak, nw_tsw, nw_flat, Value.category, List.mem_cons, List.not_mem_nil, List.length_cons, List.length_nil, or_false, false_or, or_true, true_or, and_true, true_and, and_false, false_and, if_true, if_false, Option.some.injEq, Prod.mk.injEq, and_assoc, exists_and_left, exists_eq_left, exists_eq_left', exists_const, nw_ks, nw_f4, nw_fvs, nw_some, Nat.reduceAdd, nw_sz_I, nw_kd_I, nw_ln_I, nw_rf_I, nw_L_I, nw_I_I, nw_sz_L, nw_kd_L, nw_ln_L, nw_rf_L, nw_I_L, nw_L_L, nw_ob_I, nw_ob_L, nw_obr_I, nw_obr_L, nI_add, nw_b0, nw_b1, nw_b01, not_false_eq_true, not_true_eq_false, false_implies, true_implies, Classical.not_not, nw_i10, decide_eq_false_iff_not, decide_eq_true_eq, ne_eq, Option.toList_some, Option.toList_none, List.cons_append, List.nil_append, reduceIte, Nat.reduceEqDiff, Nat.reduceLT, Nat.reduceLeDiff, Nat.reduceSub, Nat.reduceMul, reduceCtorEq, ↓nwx_aaload, ↓nwx_aload_n, ↓nwx_bipush, ↓nwx_getfield, ↓nwx_goto, ↓nwx_iaload, ↓nwx_ifCond, ↓nwx_if_icmp, ↓nwx_iinc, ↓nwx_iload, ↓nwx_iload_n, ↓nwx_ireturn, ↓nwx_istore, dmSe_countNumbers_0, rmSe_countNumbers, hv, h9, hgg, hcl]; try simp (disch := omega) only [nw_b0, nw_b1, nw_ilt, nw_ile, nw_ieq, nw_icl, nw_iin, nI_add, and_true, true_and, and_false, false_and, not_false_eq_true, not_true_eq_false, false_implies, true_implies, Classical.not_not, ne_eq, reduceIte, Nat.reduceEqDiff, Nat.reduceLT, Nat.reduceLeDiff, Nat.reduceAdd, Nat.reduceSub, Nat.reduceMul, hv, h9, hgg, hcl])
      refine ⟨fun h => absurd h (by omega), fun _ => ⟨by omega, by omega, fun h => same (fun q => q.1 h) _, fun h => ⟨fun h2 => same (fun q => absurd h2 (Int32.not_lt.mpr q.2.1)) _, fun h2 => ⟨fun h3 => same (fun q => absurd h3 (Int32.not_lt.mpr q.2.2)) _, fun h3 => ?_⟩⟩⟩⟩
      have := ih (k + 1) (by omega)
      simp only [nw_cnt, hpk, decide_eq_true (show nw_I w (nw_S n s (10 + g)) (k + 1) ≠ nI 0 ∧ x ≤ nw_I w (nw_S n s (10 + g)) (k + 1) ∧ nw_I w (nw_S n s (10 + g)) (k + 1) ≤ y from ⟨h, Int32.not_lt.mp h2, Int32.not_lt.mp h3⟩), if_true] at this
      exact this _
  rw [emSe_countNumbers]
  (apply V_s1 [6] 6; simp only [nwx_0, nwx_S, nw_s1, nw_pII, nw_pA, nw_tIs, nw_vis, nw_jpx, Option.isSome_some, Option.getD_some, nw_popn, nw_rok, nw_wok, nw_isR, nw_cd, nw_at, nw_put, nw_nl0, nw_nlS, nw_no2s, nw_ft, nw_l01, nw_ak, nw_tsw, nw_flat, Value.category, List.mem_cons, List.not_mem_nil, List.length_cons, List.length_nil, or_false, false_or, or_true, true_or, and_true, true_and, and_false, false_and, if_true, if_false, Option.some.injEq, Prod.mk.injEq, and_assoc, exists_and_left, exists_eq_left, exists_eq_left', exists_const, nw_ks, nw_f4, nw_fvs, nw_some, Nat.reduceAdd, nw_sz_I, nw_kd_I, nw_ln_I, nw_rf_I, nw_L_I, nw_I_I, nw_sz_L, nw_kd_L, nw_ln_L, nw_rf_L, nw_I_L, nw_L_L, nw_ob_I, nw_ob_L, nw_obr_I, nw_obr_L, nI_add, nw_b0, nw_b1, nw_b01, not_false_eq_true, not_true_eq_false, false_implies, true_implies, Classical.not_not, nw_i10, decide_eq_false_iff_not, decide_eq_true_eq, ne_eq, Option.toList_some, Option.toList_none, List.cons_append, List.nil_append, reduceIte, Nat.reduceEqDiff, Nat.reduceLT, Nat.reduceLeDiff, Nat.reduceSub, Nat.reduceMul, reduceCtorEq, ↓nwx_iconst, ↓nwx_istore, dmSe_countNumbers_0, rmSe_countNumbers]; try simp (disch := omega) only [nw_b0, nw_b1, nw_ilt, nw_ile, nw_ieq, nw_icl, nw_iin, nI_add, and_true, true_and, and_false, false_and, not_false_eq_true, not_true_eq_false, false_implies, true_implies, Classical.not_not, ne_eq, reduceIte, Nat.reduceEqDiff, Nat.reduceLT, Nat.reduceLeDiff, Nat.reduceAdd, Nat.reduceSub, Nat.reduceMul])
  exact loop 40 0 rfl _
set_option maxRecDepth 20000 in
theorem c_Se_countAll {g : Nat} (hg : g < 6) (hO : nw_Ok n w) (hs : s < n) : V mSe_countAll 0 (nw_ent mSe_countAll [.ref (nw_S n s 0), .int (nI g)]) [] w 0 0 (nw_ri1 (nI (nw_ids (fun i => decide (nw_I w (nw_S n s (10 + g)) i ≠ nI 0 ∧ nI 1 ≤ nw_I w (nw_S n s (10 + g)) i ∧ nw_I w (nw_S n s (10 + g)) i ≤ nw_I w (nw_S n s 8) g)))) w) := by
  have hv := nw_Ok_sv hO hs
  unfold nw_Sv at hv
  rw [emSe_countAll]
  (apply V_s1 [] 10; simp only [nwx_0, nwx_S, nw_s1, nw_pII, nw_pA, nw_tIs, nw_vis, nw_jpx, Option.isSome_some, Option.getD_some, nw_popn, nw_rok, nw_wok, nw_isR, nw_cd, nw_at, nw_put, nw_nl0, nw_nlS, nw_no2s, nw_ft, nw_l01, nw_ak, nw_tsw, nw_flat, Value.category, List.mem_cons, List.not_mem_nil, List.length_cons, List.length_nil, or_false, false_or, or_true, true_or, and_true, true_and, and_false, false_and, if_true, if_false, Option.some.injEq, Prod.mk.injEq, and_assoc, exists_and_left, exists_eq_left, exists_eq_left', exists_const, nw_ks, nw_f4, nw_fvs, nw_some, Nat.reduceAdd, nw_sz_I, nw_kd_I, nw_ln_I, nw_rf_I, nw_L_I, nw_I_I, nw_sz_L, nw_kd_L, nw_ln_L, nw_rf_L, nw_I_L, nw_L_L, nw_ob_I, nw_ob_L, nw_obr_I, nw_obr_L, nI_add, nw_b0, nw_b1, nw_b01, not_false_eq_true, not_true_eq_false, false_implies, true_implies, Classical.not_not, nw_i10, decide_eq_false_iff_not, decide_eq_true_eq, ne_eq, Option.toList_some, Option.toList_none, List.cons_append, List.nil_append, reduceIte, Nat.reduceEqDiff, Nat.reduceLT, Nat.reduceLeDiff, Nat.reduceSub, Nat.reduceMul, reduceCtorEq, ↓nwx_aload_n, ↓nwx_getfield, ↓nwx_iaload, ↓nwx_iconst, ↓nwx_iload_n, ↓nwx_invokevirtual, dmSe_countAll_0, rmSe_countAll, hv]; try simp (disch := omega) only [nw_b0, nw_b1, nw_ilt, nw_ile, nw_ieq, nw_icl, nw_iin, nI_add, and_true, true_and, and_false, false_and, not_false_eq_true, not_true_eq_false, false_implies, true_implies, Classical.not_not, ne_eq, reduceIte, Nat.reduceEqDiff, Nat.reduceLT, Nat.reduceLeDiff, Nat.reduceAdd, Nat.reduceSub, Nat.reduceMul, hv])
  refine ⟨by omega, nw_do0 (c_Se_countNumbers _ _ hg hO hs) ?_⟩
  rintro r w' ⟨rfl, rfl⟩
  (apply V_s1 [] 3; simp only [nwx_0, nwx_S, nw_s1, nw_pII, nw_pA, nw_tIs, nw_vis, nw_jpx, Option.isSome_some, Option.getD_some, nw_popn, nw_rok, nw_wok, nw_isR, nw_cd, nw_at, nw_put, nw_nl0, nw_nlS, nw_no2s, nw_ft, nw_l01, nw_ak, nw_tsw, nw_flat, Value.category, List.mem_cons, List.not_mem_nil, List.length_cons, List.length_nil, or_false, false_or, or_true, true_or, and_true, true_and, and_false, false_and, if_true, if_false, Option.some.injEq, Prod.mk.injEq, and_assoc, exists_and_left, exists_eq_left, exists_eq_left', exists_const, nw_ks, nw_f4, nw_fvs, nw_some, Nat.reduceAdd, nw_sz_I, nw_kd_I, nw_ln_I, nw_rf_I, nw_L_I, nw_I_I, nw_sz_L, nw_kd_L, nw_ln_L, nw_rf_L, nw_I_L, nw_L_L, nw_ob_I, nw_ob_L, nw_obr_I, nw_obr_L, nI_add, nw_b0, nw_b1, nw_b01, not_false_eq_true, not_true_eq_false, false_implies, true_implies, Classical.not_not, nw_i10, decide_eq_false_iff_not, decide_eq_true_eq, ne_eq, Option.toList_some, Option.toList_none, List.cons_append, List.nil_append, reduceIte, Nat.reduceEqDiff, Nat.reduceLT, Nat.reduceLeDiff, Nat.reduceSub, Nat.reduceMul, reduceCtorEq, ↓nwx_ireturn, dmSe_countAll_0, rmSe_countAll]; try simp (disch := omega) only [nw_b0, nw_b1, nw_ilt, nw_ile, nw_ieq, nw_icl, nw_iin, nI_add, and_true, true_and, and_false, false_and, not_false_eq_true, not_true_eq_false, false_implies, true_implies, Classical.not_not, ne_eq, reduceIte, Nat.reduceEqDiff, Nat.reduceLT, Nat.reduceLeDiff, Nat.reduceAdd, Nat.reduceSub, Nat.reduceMul])
  exact ⟨rfl, rfl⟩
set_option maxRecDepth 20000 in
theorem c_Se_lowestOrNext {g : Nat} (hg : g < 6) (hO : nw_Ok n w) (hs : s < n) : V mSe_lowestOrNext 0 (nw_ent mSe_lowestOrNext [.ref (nw_S n s 0), .int (nI g)]) [] w 0 0 (nw_ri1 (if nw_nx (nw_I w (nw_S n s (10 + g))) (nI 0) 40 = -1 then nw_I w (nw_S n s 8) g + nI 1 else nw_nx (nw_I w (nw_S n s (10 + g))) (nI 0) 40) w) := by
  have hv := nw_Ok_sv hO hs
  unfold nw_Sv at hv
  rw [emSe_lowestOrNext]
  (apply V_s1 [] 6; simp only [nwx_0, nwx_S, nw_s1, nw_pII, nw_pA, nw_tIs, nw_vis, nw_jpx, Option.isSome_some, Option.getD_some, nw_popn, nw_rok, nw_wok, nw_isR, nw_cd, nw_at, nw_put, nw_nl0, nw_nlS, nw_no2s, nw_ft, nw_l01, nw_ak, nw_tsw, nw_flat, Value.category, List.mem_cons, List.not_mem_nil, List.length_cons, List.length_nil, or_false, false_or, or_true, true_or, and_true, true_and, and_false, false_and, if_true, if_false, Option.some.injEq, Prod.mk.injEq, and_assoc, exists_and_left, exists_eq_left, exists_eq_left', exists_const, nw_ks, nw_f4, nw_fvs, nw_some, Nat.reduceAdd, nw_sz_I, nw_kd_I, nw_ln_I, nw_rf_I, nw_L_I, nw_I_I, nw_sz_L, nw_kd_L, nw_ln_L, nw_rf_L, nw_I_L, nw_L_L, nw_ob_I, nw_ob_L, nw_obr_I, nw_obr_L, nI_add, nw_b0, nw_b1, nw_b01, not_false_eq_true, not_true_eq_false, false_implies, true_implies, Classical.not_not, nw_i10, decide_eq_false_iff_not, decide_eq_true_eq, ne_eq, Option.toList_some, Option.toList_none, List.cons_append, List.nil_append, reduceIte, Nat.reduceEqDiff, Nat.reduceLT, Nat.reduceLeDiff, Nat.reduceSub, Nat.reduceMul, reduceCtorEq, ↓nwx_aload_n, ↓nwx_iconst, ↓nwx_iload_n, ↓nwx_invokevirtual, dmSe_lowestOrNext_0, rmSe_lowestOrNext, hv]; try simp (disch := omega) only [nw_b0, nw_b1, nw_ilt, nw_ile, nw_ieq, nw_icl, nw_iin, nI_add, and_true, true_and, and_false, false_and, not_false_eq_true, not_true_eq_false, false_implies, true_implies, Classical.not_not, ne_eq, reduceIte, Nat.reduceEqDiff, Nat.reduceLT, Nat.reduceLeDiff, Nat.reduceAdd, Nat.reduceSub, Nat.reduceMul, hv])
  refine nw_do0 (c_Se_nextNumber _ hg hO hs) ?_
  rintro r w' ⟨rfl, rfl⟩
  (apply V_s1 [] 15; simp only [nwx_0, nwx_S, nw_s1, nw_pII, nw_pA, nw_tIs, nw_vis, nw_jpx, Option.isSome_some, Option.getD_some, nw_popn, nw_rok, nw_wok, nw_isR, nw_cd, nw_at, nw_put, nw_nl0, nw_nlS, nw_no2s, nw_ft, nw_l01, nw_ak, nw_tsw, nw_flat, Value.category, List.mem_cons, List.not_mem_nil, List.length_cons, List.length_nil, or_false, false_or, or_true, true_or, and_true, true_and, and_false, false_and, if_true, if_false, Option.some.injEq, Prod.mk.injEq, and_assoc, exists_and_left, exists_eq_left, exists_eq_left', exists_const, nw_ks, nw_f4, nw_fvs, nw_some, Nat.reduceAdd, nw_sz_I, nw_kd_I, nw_ln_I, nw_rf_I, nw_L_I, nw_I_I, nw_sz_L, nw_kd_L, nw_ln_L, nw_rf_L, nw_I_L, nw_L_L, nw_ob_I, nw_ob_L, nw_obr_I, nw_obr_L, nI_add, nw_b0, nw_b1, nw_b01, not_false_eq_true, not_true_eq_false, false_implies, true_implies, Classical.not_not, nw_i10, decide_eq_false_iff_not, decide_eq_true_eq, ne_eq, Option.toList_some, Option.toList_none, List.cons_append, List.nil_append, reduceIte, Nat.reduceEqDiff, Nat.reduceLT, Nat.reduceLeDiff, Nat.reduceSub, Nat.reduceMul, reduceCtorEq, ↓nwx_aload_n, ↓nwx_getfield, ↓nwx_goto, ↓nwx_iadd, ↓nwx_iaload, ↓nwx_iconst, ↓nwx_if_icmp, ↓nwx_iload_n, ↓nwx_ireturn, ↓nwx_istore_n, dmSe_lowestOrNext_0, rmSe_lowestOrNext, hv]; try simp (disch := omega) only [nw_b0, nw_b1, nw_ilt, nw_ile, nw_ieq, nw_icl, nw_iin, nI_add, and_true, true_and, and_false, false_and, not_false_eq_true, not_true_eq_false, false_implies, true_implies, Classical.not_not, ne_eq, reduceIte, Nat.reduceEqDiff, Nat.reduceLT, Nat.reduceLeDiff, Nat.reduceAdd, Nat.reduceSub, Nat.reduceMul, hv])
  exact ⟨fun h => ⟨by rw [if_neg h], rfl⟩, fun h => ⟨by omega, by rw [if_pos h], rfl⟩⟩
end SV
