/-! Spool -/
def nw_fst (f : Nat → Int32) (x : Int32) : Nat → Nat → Int32
  | 0, _ => -1
  | d + 1, b => if f b = x then nI b else nw_fst f x d (b + 1)
set_option maxRecDepth 20000 in
theorem c_Sp_firstBlockOf {w : nw_W} {a o : Nat} (id : Int32) (h1 : nw_ob w a 5) (h2 : nw_rf w a 0 = some o) (h3 : nw_ob w o 16) (h4 : nw_ln w o = 24) : V mSp_firstBlockOf 0 (nw_ent mSp_firstBlockOf [.ref a, .int id]) [] w 0 0 (nw_ri1 (nw_fst (nw_I w o) id 24 0) w) := by
  have loop : ∀ d b, b + d = 24 → V mSp_firstBlockOf 2 [.ref a, .int id, .int (nI b)] [] w 0 0 (nw_ri1 (nw_fst (nw_I w o) id d b) w) := by
    intro d
    induction d with
    | zero =>
      intro b hb
      (apply V_s1 [2] 17; simp only [nwx_0, nwx_S, nw_s1, nw_pII, nw_pA, nw_tIs, nw_vis, nw_jpx, Option.isSome_some, Option.getD_some, nw_popn, nw_rok, nw_wok, nw_isR, nw_cd, nw_at, nw_put, nw_nl0, nw_nlS, nw_no2s, nw_ft, nw_l01, nw_ak, nw_tsw, nw_flat, Value.category, List.mem_cons, List.not_mem_nil, List.length_cons, List.length_nil, or_false, false_or, or_true, true_or, and_true, true_and, and_false, false_and, if_true, if_false, Option.some.injEq, Prod.mk.injEq, and_assoc, exists_and_left, exists_eq_left, exists_eq_left', exists_const, nw_ks, nw_f4, nw_fvs, nw_some, Nat.reduceAdd, nw_sz_I, nw_kd_I, nw_ln_I, nw_rf_I, nw_L_I, nw_I_I, nw_sz_L, nw_kd_L, nw_ln_L, nw_rf_L, nw_I_L, nw_L_L, nw_ob_I, nw_ob_L, nw_obr_I, nw_obr_L, nI_add, nw_b0, nw_b1, nw_b01, not_false_eq_true, not_true_eq_false, false_implies, true_implies, Classical.not_not, nw_i10, decide_eq_false_iff_not, decide_eq_true_eq, ne_eq, Option.toList_some, Option.toList_none, List.cons_append, List.nil_append, reduceIte, Nat.reduceEqDiff, Nat.reduceLT, Nat.reduceLeDiff, Nat.reduceSub, Nat.reduceMul, reduceCtorEq, ↓nwx_aload_n, ↓nwx_bipush, ↓nwx_getfield, ↓nwx_goto, ↓nwx_iaload, ↓nwx_iconst, ↓nwx_if_icmp, ↓nwx_iinc, ↓nwx_iload_n, ↓nwx_ireturn, dmSp_firstBlockOf_0, rmSp_firstBlockOf, h1, h2, h3, h4]; try simp (disch := omega) only [nw_b0, nw_b1, nw_ilt, nw_ile, nw_ieq, nw_icl, nw_iin, nI_add, and_true, true_and, and_false, false_and, not_false_eq_true, not_true_eq_false, false_implies, true_implies, Classical.not_not, ne_eq, reduceIte, Nat.reduceEqDiff, Nat.reduceLT, Nat.reduceLeDiff, Nat.reduceAdd, Nat.reduceSub, Nat.reduceMul, h1, h2, h3, h4])
      exact ⟨fun _ => ⟨rfl, rfl⟩, fun h => absurd (show 24 ≤ b by omega) h⟩
    | succ d ih =>
      intro b hb
      (apply V_s1 [2] 17; simp only [nwx_0, nwx_S, nw_s1, nw_pII, nw_pA, nw_tIs, nw_vis, nw_jpx, Option.isSome_some, Option.getD_some, nw_popn, nw_rok, nw_wok, nw_isR, nw_cd, nw_at, nw_put, nw_nl0, nw_nlS, nw_no2s, nw_ft, nw_l01, nw_ak, nw_tsw, nw_flat, Value.category, List.mem_cons, List.not_mem_nil, List.length_cons, List.length_nil, or_false, false_or, or_true, true_or, and_true, true_and, and_false, false_and, if_true, if_false, Option.some.injEq, Prod.mk.injEq, and_assoc, exists_and_left, exists_eq_left, exists_eq_left', exists_const, nw_ks, nw_f4, nw_fvs, nw_some, Nat.reduceAdd, nw_sz_I, nw_kd_I, nw_ln_I, nw_rf_I, nw_L_I, nw_I_I, nw_sz_L, nw_kd_L, nw_ln_L, nw_rf_L, nw_I_L, nw_L_L, nw_ob_I, nw_ob_L, nw_obr_I, nw_obr_L, nI_add, nw_b0, nw_b1, nw_b01, not_false_eq_true, not_true_eq_false, false_implies, true_implies, Classical.not_not, nw_i10, decide_eq_false_iff_not, decide_eq_true_eq, ne_eq, Option.toList_some, Option.toList_none, List.cons_append, List.nil_append, reduceIte, Nat.reduceEqDiff, Nat.reduceLT, Nat.reduceLeDiff, Nat.reduceSub, Nat.reduceMul, reduceCtorEq, ↓nwx_aload_n, ↓nwx_bipush, ↓nwx_getfield, ↓nwx_goto, ↓nwx_iaload, ↓nwx_iconst, ↓nwx_if_icmp, ↓nwx_iinc, ↓nwx_iload_n, ↓nwx_ireturn, dmSp_firstBlockOf_0, rmSp_firstBlockOf, h1, h2, h3, h4]; try simp (disch := omega) only [nw_b0, nw_b1, nw_ilt, nw_ile, nw_ieq, nw_icl, nw_iin, nI_add, and_true, true_and, and_false, false_and, not_false_eq_true, not_true_eq_false, false_implies, true_implies, Classical.not_not, ne_eq, reduceIte, Nat.reduceEqDiff, Nat.reduceLT, Nat.reduceLeDiff, Nat.reduceAdd, Nat.reduceSub, Nat.reduceMul, h1, h2, h3, h4])
      refine ⟨fun h => absurd h (by omega), fun _ => ⟨by omega, fun h => ?_, fun h => ?_⟩⟩
      · simp only [nw_fst, if_neg h]
        exact ih (b + 1) (by omega)
      · simp only [nw_fst, if_pos h]
        exact ⟨rfl, rfl⟩
  rw [emSp_firstBlockOf]
  (apply V_s1 [2] 4; simp only [nwx_0, nwx_S, nw_s1, nw_pII, nw_pA, nw_tIs, nw_vis, nw_jpx, Option.isSome_some, Option.getD_some, nw_popn, nw_rok, nw_wok, nw_isR, nw_cd, nw_at, nw_put, nw_nl0, nw_nlS, nw_no2s, nw_ft, nw_l01, nw_ak, nw_tsw, nw_flat, Value.category, List.mem_cons, List.not_mem_nil, List.length_cons, List.length_nil, or_false, false_or, or_true, true_or, and_true, true_and, and_false, false_and, if_true, if_false, Option.some.injEq, Prod.mk.injEq, and_assoc, exists_and_left, exists_eq_left, exists_eq_left', exists_const, nw_ks, nw_f4, nw_fvs, nw_some, Nat.reduceAdd, nw_sz_I, nw_kd_I, nw_ln_I, nw_rf_I, nw_L_I, nw_I_I, nw_sz_L, nw_kd_L, nw_ln_L, nw_rf_L, nw_I_L, nw_L_L, nw_ob_I, nw_ob_L, nw_obr_I, nw_obr_L, nI_add, nw_b0, nw_b1, nw_b01, not_false_eq_true, not_true_eq_false, false_implies, true_implies, Classical.not_not, nw_i10, decide_eq_false_iff_not, decide_eq_true_eq, ne_eq, Option.toList_some, Option.toList_none, List.cons_append, List.nil_append, reduceIte, Nat.reduceEqDiff, Nat.reduceLT, Nat.reduceLeDiff, Nat.reduceSub, Nat.reduceMul, reduceCtorEq, ↓nwx_iconst, ↓nwx_istore_n, dmSp_firstBlockOf_0, rmSp_firstBlockOf]; try simp (disch := omega) only [nw_b0, nw_b1, nw_ilt, nw_ile, nw_ieq, nw_icl, nw_iin, nI_add, and_true, true_and, and_false, false_and, not_false_eq_true, not_true_eq_false, false_implies, true_implies, Classical.not_not, ne_eq, reduceIte, Nat.reduceEqDiff, Nat.reduceLT, Nat.reduceLeDiff, Nat.reduceAdd, Nat.reduceSub, Nat.reduceMul])
  exact loop 24 0 rfl
/-- is block b free? -/
def nw_fr0 (o : Nat → Int32) : Nat → Bool := fun b => decide (o b = nI 0)
set_option maxRecDepth 20000 in
theorem c_Sp_placeFor {w : nw_W} {a o m : Nat} (hm : 1 ≤ m) (hm2 : m ≤ 24) (h1 : nw_ob w a 5) (h2 : nw_rf w a 0 = some o) (h3 : nw_ob w o 16) (h4 : nw_ln w o = 24) : V mSp_placeFor 0 (nw_ent mSp_placeFor [.ref a, .int (nI m)]) [] w 0 0 (nw_rx (nw_room (nw_fr0 (nw_I w o)) m) w) := by
  generalize hF : nw_fr0 (nw_I w o) = F
  have e0 : ∀ b, ¬ nw_I w o b = nI 0 → nw_rn F (b + 1) = 0 := fun b h => by
    have : F b = false := by rw [← hF]; exact decide_eq_false h
    simp only [nw_rn, this]
    rfl
  have e1 : ∀ b, nw_I w o b = nI 0 → nw_rn F (b + 1) = nw_rn F b + 1 := fun b h => by
    have : F b = true := by rw [← hF]; exact decide_eq_true h
    simp only [nw_rn, this, if_true]
  have loop : ∀ d b, b + d = 24 → nw_rn F b < m → (∀ c, c + m ≤ b → ¬ nw_all F c m) → V mSp_placeFor 4 [.ref a, .int (nI m), .int (nI (nw_rn F b)), .int (nI b)] [] w 0 0 (nw_rx (nw_room F m) w) := by
    intro d
    induction d with
    | zero =>
      intro b hb g1 g2
      (apply V_s1 [4] 29; simp only [nwx_0, nwx_S, nw_s1, nw_pII, nw_pA, nw_tIs, nw_vis, nw_jpx, Option.isSome_some, Option.getD_some, nw_popn, nw_rok, nw_wok, nw_isR, nw_cd, nw_at, nw_put, nw_nl0, nw_nlS, nw_no2s, nw_ft, nw_l01, nw_ak, nw_tsw, nw_flat, Value.category, List.mem_cons, List.not_mem_nil, List.length_cons, List.length_nil, or_false, false_or, or_true, true_or, and_true, true_and, and_false, false_and, if_true, if_false, Option.some.injEq, Prod.mk.injEq, and_assoc, exists_and_left, exists_eq_left, exists_eq_left', exists_const, nw_ks, nw_f4, nw_fvs, nw_some, Nat.reduceAdd, nw_sz_I, nw_kd_I, nw_ln_I, nw_rf_I, nw_L_I, nw_I_I, nw_sz_L, nw_kd_L, nw_ln_L, nw_rf_L, nw_I_L, nw_L_L, nw_ob_I, nw_ob_L, nw_obr_I, nw_obr_L, nI_add, nw_b0, nw_b1, nw_b01, not_false_eq_true, not_true_eq_false, false_implies, true_implies, Classical.not_not, nw_i10, decide_eq_false_iff_not, decide_eq_true_eq, ne_eq, Option.toList_some, Option.toList_none, List.cons_append, List.nil_append, reduceIte, Nat.reduceEqDiff, Nat.reduceLT, Nat.reduceLeDiff, Nat.reduceSub, Nat.reduceMul, reduceCtorEq, ↓nwx_aload_n, ↓nwx_bipush, ↓nwx_getfield, ↓nwx_goto, ↓nwx_iadd, ↓nwx_iaload, ↓nwx_iconst, ↓nwx_ifCond, ↓nwx_if_icmp, ↓nwx_iinc, ↓nwx_iload_n, ↓nwx_ireturn, ↓nwx_istore_n, ↓nwx_isub, dmSp_placeFor_0, rmSp_placeFor, h1, h2, h3, h4]; try simp (disch := omega) only [nw_b0, nw_b1, nw_ilt, nw_ile, nw_ieq, nw_icl, nw_iin, nI_add, and_true, true_and, and_false, false_and, not_false_eq_true, not_true_eq_false, false_implies, true_implies, Classical.not_not, ne_eq, reduceIte, Nat.reduceEqDiff, Nat.reduceLT, Nat.reduceLeDiff, Nat.reduceAdd, Nat.reduceSub, Nat.reduceMul, h1, h2, h3, h4])
      refine ⟨fun _ => ?_, fun h => absurd (show 24 ≤ b by omega) h⟩
      exact ⟨-1, rfl, rfl, Or.inr ⟨rfl, fun c hc => g2 c (by omega)⟩⟩
    | succ d ih =>
      intro b hb g1 g2
      have hr := nw_rn_le F b
      have nx : nw_rn F (b + 1) < m → ∀ c, c + m ≤ b + 1 → ¬ nw_all F c m := fun hlt c hc ha => by
        by_cases hcb : c + m ≤ b
        · exact g2 c hcb ha
        · have e : c = b + 1 - m := by omega
          have := (nw_rn_ok F (b + 1) m).mpr ⟨by omega, e ▸ ha⟩
          omega
      (apply V_s1 [4] 29; simp only [nwx_0, nwx_S, nw_s1, nw_pII, nw_pA, nw_tIs, nw_vis, nw_jpx, Option.isSome_some, Option.getD_some, nw_popn, nw_rok, nw_wok, nw_isR, nw_cd, nw_at, nw_put, nw_nl0, nw_nlS, nw_no2s, nw_ft, nw_l01, nw_ak, nw_tsw, nw_flat, Value.category, List.mem_cons, List.not_mem_nil, List.length_cons, List.length_nil, or_false, false_or, or_true, true_or, and_true, true_and, and_false, false_and, if_true, if_false, Option.some.injEq, Prod.mk.injEq, and_assoc, exists_and_left, exists_eq_left, exists_eq_left', exists_const, nw_ks, nw_f4, nw_fvs, nw_some, Nat.reduceAdd, nw_sz_I, nw_kd_I, nw_ln_I, nw_rf_I, nw_L_I, nw_I_I, nw_sz_L, nw_kd_L, nw_ln_L, nw_rf_L, nw_I_L, nw_L_L, nw_ob_I, nw_ob_L, nw_obr_I, nw_obr_L, nI_add, nw_b0, nw_b1, nw_b01, not_false_eq_true, not_true_eq_false, false_implies, true_implies, Classical.not_not, nw_i10, decide_eq_false_iff_not, decide_eq_true_eq, ne_eq, Option.toList_some, Option.toList_none, List.cons_append, List.nil_append, reduceIte, Nat.reduceEqDiff, Nat.reduceLT, Nat.reduceLeDiff, Nat.reduceSub, Nat.reduceMul, reduceCtorEq, ↓nwx_aload_n, ↓nwx_bipush, ↓nwx_getfield, ↓nwx_goto, ↓nwx_iadd, ↓nwx_iaload, ↓nwx_iconst, ↓nwx_ifCond, ↓nwx_if_icmp, ↓nwx_iinc, ↓nwx_iload_n, ↓nwx_ireturn, ↓nwx_istore_n, ↓nwx_isub, dmSp_placeFor_0, rmSp_placeFor, h1, h2, h3, h4]; try simp (disch := omega) only [nw_b0, nw_b1, nw_ilt, nw_ile, nw_ieq, nw_icl, nw_iin, nI_add, and_true, true_and, and_false, false_and, not_false_eq_true, not_true_eq_false, false_implies, true_implies, Classical.not_not, ne_eq, reduceIte, Nat.reduceEqDiff, Nat.reduceLT, Nat.reduceLeDiff, Nat.reduceAdd, Nat.reduceSub, Nat.reduceMul, h1, h2, h3, h4])
      refine ⟨fun h => absurd h (by omega), fun _ => ⟨by omega, fun h0 => ⟨fun _ => ?_, fun e => absurd e (by omega)⟩, fun h0 => ⟨fun hne => ?_, fun e => ?_⟩⟩⟩
      · have := ih (b + 1) (by omega) (by rw [e0 b h0]; omega) (nx (by rw [e0 b h0]; omega))
        rw [e0 b h0] at this
        exact this
      · have := ih (b + 1) (by omega) (by rw [e1 b h0]; omega) (nx (by rw [e1 b h0]; omega))
        rw [e1 b h0] at this
        exact this
      · have h9 := (nw_rn_ok F (b + 1) m).mp (by rw [e1 b h0]; omega)
        refine ⟨_, rfl, rfl, Or.inl ⟨b + 1 - m, by omega, by rw [nw_subadd, nI_add, pk_sub (by omega)], h9.2, fun d hd => g2 d (by omega)⟩⟩
  rw [emSp_placeFor]
  (apply V_s1 [4] 6; simp only [nwx_0, nwx_S, nw_s1, nw_pII, nw_pA, nw_tIs, nw_vis, nw_jpx, Option.isSome_some, Option.getD_some, nw_popn, nw_rok, nw_wok, nw_isR, nw_cd, nw_at, nw_put, nw_nl0, nw_nlS, nw_no2s, nw_ft, nw_l01, nw_ak, nw_tsw, nw_flat, Value.category, List.mem_cons, List.not_mem_nil, List.length_cons, List.length_nil, or_false, false_or, or_true, true_or, and_true, true_and, and_false, false_and, if_true, if_false, Option.some.injEq, Prod.mk.injEq, and_assoc, exists_and_left, exists_eq_left, exists_eq_left', exists_const, nw_ks, nw_f4, nw_fvs, nw_some, Nat.reduceAdd, nw_sz_I, nw_kd_I, nw_ln_I, nw_rf_I, nw_L_I, nw_I_I, nw_sz_L, nw_kd_L, nw_ln_L, nw_rf_L, nw_I_L, nw_L_L, nw_ob_I, nw_ob_L, nw_obr_I, nw_obr_L, nI_add, nw_b0, nw_b1, nw_b01, not_false_eq_true, not_true_eq_false, false_implies, true_implies, Classical.not_not, nw_i10, decide_eq_false_iff_not, decide_eq_true_eq, ne_eq, Option.toList_some, Option.toList_none, List.cons_append, List.nil_append, reduceIte, Nat.reduceEqDiff, Nat.reduceLT, Nat.reduceLeDiff, Nat.reduceSub, Nat.reduceMul, reduceCtorEq, ↓nwx_iconst, ↓nwx_istore_n, dmSp_placeFor_0, rmSp_placeFor]; try simp (disch := omega) only [nw_b0, nw_b1, nw_ilt, nw_ile, nw_ieq, nw_icl, nw_iin, nI_add, and_true, true_and, and_false, false_and, not_false_eq_true, not_true_eq_false, false_implies, true_implies, Classical.not_not, ne_eq, reduceIte, Nat.reduceEqDiff, Nat.reduceLT, Nat.reduceLeDiff, Nat.reduceAdd, Nat.reduceSub, Nat.reduceMul])
  exact loop 24 0 rfl (by show 0 < m; omega) (fun c hc => absurd hc (by omega))
set_option maxRecDepth 20000 in
theorem c_Sp_release {w : nw_W} {a o : Nat} (id : Int32) (h1 : nw_ob w a 5) (h2 : nw_rf w a 0 = some o) (h3 : nw_ob w o 16) (h4 : nw_ln w o = 24) : V mSp_release 0 (nw_ent mSp_release [.ref a, .int id]) [] w 0 0 (nw_rw (nw_setI w o (fun x => if x < 24 ∧ nw_I w o x = id then nI 0 else nw_I w o x))) := by
  generalize hu : nw_setI w o (fun x => if x < 24 ∧ nw_I w o x = id then nI 0 else nw_I w o x) = u
  have loop : ∀ d b, b + d = 24 → ∀ f : Nat → Int32, f = (fun x => if x < b ∧ nw_I w o x = id then nI 0 else nw_I w o x) → V mSp_release 2 [.ref a, .int id, .int (nI b)] [] (nw_setI w o f) 0 0 (nw_rw u) := by
    intro d
    induction d with
    | zero =>
      intro b hb f hf
      have hb : b = 24 := by omega
      subst hb
      (apply V_s1 [2] 19; simp only [nwx_0, nwx_S, nw_s1, nw_pII, nw_pA, nw_tIs, nw_vis, nw_jpx, Option.isSome_some, Option.getD_some, nw_popn, nw_rok, nw_wok, nw_isR, nw_cd, nw_at, nw_put, nw_nl0, nw_nlS, nw_no2s, nw_ft, nw_l01, nw_ak, nw_tsw, nw_flat, Value.category, List.mem_cons, List.not_mem_nil, List.length_cons, List.length_nil, or_false, false_or, or_true, true_or, and_true, true_and, and_false, false_and, if_true, if_false, Option.some.injEq, Prod.mk.injEq, and_assoc, exists_and_left, exists_eq_left, exists_eq_left', exists_const, nw_ks, nw_f4, nw_fvs, nw_some, Nat.reduceAdd, nw_sz_I, nw_kd_I, nw_ln_I, nw_rf_I, nw_L_I, nw_I_I, nw_sz_L, nw_kd_L, nw_ln_L, nw_rf_L, nw_I_L, nw_L_L, nw_ob_I, nw_ob_L, nw_obr_I, nw_obr_L, nI_add, nw_b0, nw_b1, nw_b01, not_false_eq_true, not_true_eq_false, false_implies, true_implies, Classical.not_not, nw_i10, decide_eq_false_iff_not, decide_eq_true_eq, ne_eq, Option.toList_some, Option.toList_none, List.cons_append, List.nil_append, reduceIte, Nat.reduceEqDiff, Nat.reduceLT, Nat.reduceLeDiff, Nat.reduceSub, Nat.reduceMul, reduceCtorEq, ↓nwx_aload_n, ↓nwx_bipush, ↓nwx_getfield, ↓nwx_goto, ↓nwx_iaload, ↓nwx_iastore, ↓nwx_iconst, ↓nwx_if_icmp, ↓nwx_iinc, ↓nwx_iload_n, ↓nwx_return_, dmSp_release_0, rmSp_release, h1, h2, h3, h4, va_up_self]; try simp (disch := omega) only [nw_b0, nw_b1, nw_ilt, nw_ile, nw_ieq, nw_icl, nw_iin, nI_add, and_true, true_and, and_false, false_and, not_false_eq_true, not_true_eq_false, false_implies, true_implies, Classical.not_not, ne_eq, reduceIte, Nat.reduceEqDiff, Nat.reduceLT, Nat.reduceLeDiff, Nat.reduceAdd, Nat.reduceSub, Nat.reduceMul, h1, h2, h3, h4, va_up_self])
      exact ⟨rfl, by rw [hf]; exact hu⟩
    | succ d ih =>
      intro b hb f hf
      have hfb : f b = nw_I w o b := by rw [hf]; simp
      (apply V_s1 [2] 19; simp only [nwx_0, nwx_S, nw_s1, nw_pII, nw_pA, nw_tIs, nw_vis, nw_jpx, Option.isSome_some, Option.getD_some, nw_popn, nw_rok, nw_wok, nw_isR, nw_cd, nw_at, nw_put, nw_nl0, nw_nlS, nw_no2s, nw_ft, nw_l01, nw_ak, nw_tsw, nw_flat, Value.category, List.mem_cons, List.not_mem_nil, List.length_cons, List.length_nil, or_false, false_or, or_true, true_or, and_true, true_and, and_false, false_and, if_true, if_false, Option.some.injEq, Prod.mk.injEq, and_assoc, exists_and_left, exists_eq_left, exists_eq_left', exists_const, nw_ks, nw_f4, nw_fvs, nw_some, Nat.reduceAdd, nw_sz_I, nw_kd_I, nw_ln_I, nw_rf_I, nw_L_I, nw_I_I, nw_sz_L, nw_kd_L, nw_ln_L, nw_rf_L, nw_I_L, nw_L_L, nw_ob_I, nw_ob_L, nw_obr_I, nw_obr_L, nI_add, nw_b0, nw_b1, nw_b01, not_false_eq_true, not_true_eq_false, false_implies, true_implies, Classical.not_not, nw_i10, decide_eq_false_iff_not, decide_eq_true_eq, ne_eq, Option.toList_some, Option.toList_none, List.cons_append, List.nil_append, reduceIte, Nat.reduceEqDiff, Nat.reduceLT, Nat.reduceLeDiff, Nat.reduceSub, Nat.reduceMul, reduceCtorEq, ↓nwx_aload_n, ↓nwx_bipush, ↓nwx_getfield, ↓nwx_goto, ↓nwx_iaload, ↓nwx_iastore, ↓nwx_iconst, ↓nwx_if_icmp, ↓nwx_iinc, ↓nwx_iload_n, ↓nwx_return_, dmSp_release_0, rmSp_release, h1, h2, h3, h4, va_up_self, nw_setI2, hfb]; try simp (disch := omega) only [nw_b0, nw_b1, nw_ilt, nw_ile, nw_ieq, nw_icl, nw_iin, nI_add, and_true, true_and, and_false, false_and, not_false_eq_true, not_true_eq_false, false_implies, true_implies, Classical.not_not, ne_eq, reduceIte, Nat.reduceEqDiff, Nat.reduceLT, Nat.reduceLeDiff, Nat.reduceAdd, Nat.reduceSub, Nat.reduceMul, h1, h2, h3, h4, va_up_self, nw_setI2, hfb])
      refine ⟨fun h => absurd h (by omega), fun _ => ⟨by omega, fun h => ih (b + 1) (by omega) f ?_, fun h => ⟨by omega, ih (b + 1) (by omega) _ ?_⟩⟩⟩
      · rw [hf]
        funext x
        by_cases hx : x = b
        · subst hx; simp [h]
        · have : (x < b + 1) = (x < b) := propext (by omega)
          simp only [this]
      · rw [hf]
        funext x
        unfold upd
        by_cases hx : x = b
        · subst hx; simp [h]
        · have : (x < b + 1) = (x < b) := propext (by omega)
          simp only [if_neg hx, this]
  rw [emSp_release]
  (apply V_s1 [2] 4; simp only [nwx_0, nwx_S, nw_s1, nw_pII, nw_pA, nw_tIs, nw_vis, nw_jpx, Option.isSome_some, Option.getD_some, nw_popn, nw_rok, nw_wok, nw_isR, nw_cd, nw_at, nw_put, nw_nl0, nw_nlS, nw_no2s, nw_ft, nw_l01, nw_ak, nw_tsw, nw_flat, Value.category, List.mem_cons, List.not_mem_nil, List.length_cons, List.length_nil, or_false, false_or, or_true, true_or, and_true, true_and, and_false, false_and, if_true, if_false, Option.some.injEq, Prod.mk.injEq, and_assoc, exists_and_left, exists_eq_left, exists_eq_left', exists_const, nw_ks, nw_f4, nw_fvs, nw_some, Nat.reduceAdd, nw_sz_I, nw_kd_I, nw_ln_I, nw_rf_I, nw_L_I, nw_I_I, nw_sz_L, nw_kd_L, nw_ln_L, nw_rf_L, nw_I_L, nw_L_L, nw_ob_I, nw_ob_L, nw_obr_I, nw_obr_L, nI_add, nw_b0, nw_b1, nw_b01, not_false_eq_true, not_true_eq_false, false_implies, true_implies, Classical.not_not, nw_i10, decide_eq_false_iff_not, decide_eq_true_eq, ne_eq, Option.toList_some, Option.toList_none, List.cons_append, List.nil_append, reduceIte, Nat.reduceEqDiff, Nat.reduceLT, Nat.reduceLeDiff, Nat.reduceSub, Nat.reduceMul, reduceCtorEq, ↓nwx_iconst, ↓nwx_istore_n, dmSp_release_0, rmSp_release]; try simp (disch := omega) only [nw_b0, nw_b1, nw_ilt, nw_ile, nw_ieq, nw_icl, nw_iin, nI_add, and_true, true_and, and_false, false_and, not_false_eq_true, not_true_eq_false, false_implies, true_implies, Classical.not_not, ne_eq, reduceIte, Nat.reduceEqDiff, Nat.reduceLT, Nat.reduceLeDiff, Nat.reduceAdd, Nat.reduceSub, Nat.reduceMul])
  have := loop 24 0 rfl _ rfl
  rw [nw_setI_id (by funext x; simp)] at this
  exact this
set_option maxRecDepth 20000 in
theorem c_Sp_countFree {w : nw_W} {a o : Nat} (h1 : nw_ob w a 5) (h2 : nw_rf w a 0 = some o) (h3 : nw_ob w o 16) (h4 : nw_ln w o = 24) : V mSp_countFree 0 (nw_ent mSp_countFree [.ref a]) [] w 0 0 (nw_ri1 (nI (nw_cnt (nw_fr0 (nw_I w o)) 24)) w) := by
  have loop : ∀ d b, b + d = 24 → V mSp_countFree 4 [.ref a, .int (nI (nw_cnt (nw_fr0 (nw_I w o)) b)), .int (nI b)] [] w 0 0 (nw_ri1 (nI (nw_cnt (nw_fr0 (nw_I w o)) 24)) w) := by
    intro d
    induction d with
    | zero =>
      intro b hb
      have hb : b = 24 := by omega
      subst hb
      (apply V_s1 [4] 20; simp only [nwx_0, nwx_S, nw_s1, nw_pII, nw_pA, nw_tIs, nw_vis, nw_jpx, Option.isSome_some, Option.getD_some, nw_popn, nw_rok, nw_wok, nw_isR, nw_cd, nw_at, nw_put, nw_nl0, nw_nlS, nw_no2s, nw_ft, nw_l01, nw_ak, nw_tsw, nw_flat, Value.category, List.mem_cons, List.not_mem_nil, List.length_cons, List.length_nil, or_false, false_or, or_true, true_or, and_true, true_and, and_false, false_and, if_true, if_false, Option.some.injEq, Prod.mk.injEq, and_assoc, exists_and_left, exists_eq_left, exists_eq_left', exists_const, nw_ks, nw_f4, nw_fvs, nw_some, Nat.reduceAdd, nw_sz_I, nw_kd_I, nw_ln_I, nw_rf_I, nw_L_I, nw_I_I, nw_sz_L, nw_kd_L, nw_ln_L, nw_rf_L, nw_I_L, nw_L_L, nw_ob_I, nw_ob_L, nw_obr_I, nw_obr_L, nI_add, nw_b0, nw_b1, nw_b01, not_false_eq_true, not_true_eq_false, false_implies, true_implies, Classical.not_not, nw_i10, decide_eq_false_iff_not, decide_eq_true_eq, ne_eq, Option.toList_some, Option.toList_none, List.cons_append, List.nil_append, reduceIte, Nat.reduceEqDiff, Nat.reduceLT, Nat.reduceLeDiff, Nat.reduceSub, Nat.reduceMul, reduceCtorEq, ↓nwx_aload_n, ↓nwx_bipush, ↓nwx_getfield, ↓nwx_goto, ↓nwx_iadd, ↓nwx_iaload, ↓nwx_iconst, ↓nwx_ifCond, ↓nwx_if_icmp, ↓nwx_iinc, ↓nwx_iload_n, ↓nwx_ireturn, ↓nwx_istore_n, dmSp_countFree_0, rmSp_countFree, h1, h2, h3, h4]; try simp (disch := omega) only [nw_b0, nw_b1, nw_ilt, nw_ile, nw_ieq, nw_icl, nw_iin, nI_add, and_true, true_and, and_false, false_and, not_false_eq_true, not_true_eq_false, false_implies, true_implies, Classical.not_not, ne_eq, reduceIte, Nat.reduceEqDiff, Nat.reduceLT, Nat.reduceLeDiff, Nat.reduceAdd, Nat.reduceSub, Nat.reduceMul, h1, h2, h3, h4])
      exact ⟨rfl, rfl⟩
    | succ d ih =>
      intro b hb
      have ih := ih (b + 1) (by omega)
      (apply V_s1 [4] 20; simp only [nwx_0, nwx_S, nw_s1, nw_pII, nw_pA, nw_tIs, nw_vis, nw_jpx, Option.isSome_some, Option.getD_some, nw_popn, nw_rok, nw_wok, nw_isR, nw_cd, nw_at, nw_put, nw_nl0, nw_nlS, nw_no2s, nw_ft, nw_l01, nw_ak, nw_tsw, nw_flat, Value.category, List.mem_cons, List.not_mem_nil, List.length_cons, List.length_nil, or_false, false_or, or_true, true_or, and_true, true_and, and_false, false_and, if_true, if_false, Option.some.injEq, Prod.mk.injEq, and_assoc, exists_and_left, exists_eq_left, exists_eq_left', exists_const, nw_ks, nw_f4, nw_fvs, nw_some, Nat.reduceAdd, nw_sz_I, nw_kd_I, nw_ln_I, nw_rf_I, nw_L_I, nw_I_I, nw_sz_L, nw_kd_L, nw_ln_L, nw_rf_L, nw_I_L, nw_L_L, nw_ob_I, nw_ob_L, nw_obr_I, nw_obr_L, nI_add, nw_b0, nw_b1, nw_b01, not_false_eq_true, not_true_eq_false, false_implies, true_implies, Classical.not_not, nw_i10, decide_eq_false_iff_not, decide_eq_true_eq, ne_eq, Option.toList_some, Option.toList_none, List.cons_append, List.nil_append, reduceIte, Nat.reduceEqDiff, Nat.reduceLT, Nat.reduceLeDiff, Nat.reduceSub, Nat.reduceMul, reduceCtorEq, ↓nwx_aload_n, ↓nwx_bipush, ↓nwx_getfield, ↓nwx_goto, ↓nwx_iadd, ↓nwx_iaload, ↓nwx_iconst, ↓nwx_ifCond, ↓nwx_if_icmp, ↓nwx_iinc, ↓nwx_iload_n, ↓nwx_ireturn, ↓nwx_istore_n, dmSp_countFree_0, rmSp_countFree, h1, h2, h3, h4]; try simp (disch := omega) only [nw_b0, nw_b1, nw_ilt, nw_ile, nw_ieq, nw_icl, nw_iin, nI_add, and_true, true_and, and_false, false_and, not_false_eq_true, not_true_eq_false, false_implies, true_implies, Classical.not_not, ne_eq, reduceIte, Nat.reduceEqDiff, Nat.reduceLT, Nat.reduceLeDiff, Nat.reduceAdd, Nat.reduceSub, Nat.reduceMul, h1, h2, h3, h4])
      refine ⟨fun h => absurd h (by omega), fun _ => ⟨by omega, fun h => ?_, fun h => ?_⟩⟩
      · simp only [nw_cnt, nw_fr0, h, decide_false, Bool.false_eq_true, if_false] at ih
        exact ih
      · simp only [nw_cnt, nw_fr0, h, decide_true, if_true] at ih
        exact ih
  rw [emSp_countFree]
  (apply V_s1 [4] 6; simp only [nwx_0, nwx_S, nw_s1, nw_pII, nw_pA, nw_tIs, nw_vis, nw_jpx, Option.isSome_some, Option.getD_some, nw_popn, nw_rok, nw_wok, nw_isR, nw_cd, nw_at, nw_put, nw_nl0, nw_nlS, nw_no2s, nw_ft, nw_l01, nw_ak, nw_tsw, nw_flat, Value.category, List.mem_cons, List.not_mem_nil, List.length_cons, List.length_nil, or_false, false_or, or_true, true_or, and_true, true_and, and_false, false_and, if_true, if_false, Option.some.injEq, Prod.mk.injEq, and_assoc, exists_and_left, exists_eq_left, exists_eq_left', exists_const, nw_ks, nw_f4, nw_fvs, nw_some, Nat.reduceAdd, nw_sz_I, nw_kd_I, nw_ln_I, nw_rf_I, nw_L_I, nw_I_I, nw_sz_L, nw_kd_L, nw_ln_L, nw_rf_L, nw_I_L, nw_L_L, nw_ob_I, nw_ob_L, nw_obr_I, nw_obr_L, nI_add, nw_b0, nw_b1, nw_b01, not_false_eq_true, not_true_eq_false, false_implies, true_implies, Classical.not_not, nw_i10, decide_eq_false_iff_not, decide_eq_true_eq, ne_eq, Option.toList_some, Option.toList_none, List.cons_append, List.nil_append, reduceIte, Nat.reduceEqDiff, Nat.reduceLT, Nat.reduceLeDiff, Nat.reduceSub, Nat.reduceMul, reduceCtorEq, ↓nwx_iconst, ↓nwx_istore_n, dmSp_countFree_0, rmSp_countFree]; try simp (disch := omega) only [nw_b0, nw_b1, nw_ilt, nw_ile, nw_ieq, nw_icl, nw_iin, nI_add, and_true, true_and, and_false, false_and, not_false_eq_true, not_true_eq_false, false_implies, true_implies, Classical.not_not, ne_eq, reduceIte, Nat.reduceEqDiff, Nat.reduceLT, Nat.reduceLeDiff, Nat.reduceAdd, Nat.reduceSub, Nat.reduceMul])
  exact loop 24 0 rfl
def nw_lg (F : Nat → Bool) : Nat → Nat
  | 0 => 0
  | b + 1 => if nw_lg F b < nw_rn F (b + 1) then nw_rn F (b + 1) else nw_lg F b
theorem nw_lg_ok (F : Nat → Bool) : ∀ b, nw_lg F b ≤ b ∧ (∃ c, c + nw_lg F b ≤ b ∧ nw_all F c (nw_lg F b)) ∧ ∀ c m, c + m ≤ b → nw_all F c m → m ≤ nw_lg F b
  | 0 => ⟨Nat.le_refl _, ⟨0, Nat.le_refl _, fun b h1 h2 => absurd h2 (by simp [nw_lg])⟩, fun c m h _ => by simp only [nw_lg]; omega⟩
  | b + 1 => by
    obtain ⟨h1, ⟨c, h2, h3⟩, h4⟩ := nw_lg_ok F b
    have hr := nw_rn_le F (b + 1)
    have hk := (nw_rn_ok F (b + 1) (nw_rn F (b + 1))).mp (Nat.le_refl _)
    have hm : ∀ c m, c + m ≤ b + 1 → nw_all F c m → m ≤ nw_rn F (b + 1) ∨ m ≤ nw_lg F b := fun c m hc ha => by
      by_cases hb : c + m ≤ b
      · exact Or.inr (h4 c m hb ha)
      · refine Or.inl ((nw_rn_ok F (b + 1) m).mpr ⟨by omega, ?_⟩)
        rw [show b + 1 - m = c by omega]
        exact ha
    simp only [nw_lg]
    by_cases h : nw_lg F b < nw_rn F (b + 1)
    · rw [if_pos h]
      exact ⟨hr, ⟨b + 1 - nw_rn F (b + 1), by omega, hk.2⟩, fun c m hc ha => by rcases hm c m hc ha with q | q <;> omega⟩
    · rw [if_neg h]
      exact ⟨by omega, ⟨c, by omega, h3⟩, fun c m hc ha => by rcases hm c m hc ha with q | q <;> omega⟩
theorem nw_lg_long (F : Nat → Bool) : nw_long F (nI (nw_lg F 24)) := by
  obtain ⟨h1, h2, h3⟩ := nw_lg_ok F 24
  exact ⟨_, h1, rfl, h2, h3⟩
set_option maxRecDepth 20000 in
theorem c_Sp_longestFree {w : nw_W} {a o : Nat} (h1 : nw_ob w a 5) (h2 : nw_rf w a 0 = some o) (h3 : nw_ob w o 16) (h4 : nw_ln w o = 24) : V mSp_longestFree 0 (nw_ent mSp_longestFree [.ref a]) [] w 0 0 (nw_rx (nw_long (nw_fr0 (nw_I w o))) w) := by
  generalize hF : nw_fr0 (nw_I w o) = F
  have loop : ∀ d b, b + d = 24 → V mSp_longestFree 6 [.ref a, .int (nI (nw_lg F b)), .int (nI (nw_rn F b)), .int (nI b)] [] w 0 0 (nw_rx (nw_long F) w) := by
    intro d
    induction d with
    | zero =>
      intro b hb
      have hb : b = 24 := by omega
      subst hb
      (apply V_s1 [6] 24; simp only [nwx_0, nwx_S, nw_s1, nw_pII, nw_pA, nw_tIs, nw_vis, nw_jpx, Option.isSome_some, Option.getD_some, nw_popn, nw_rok, nw_wok, nw_isR, nw_cd, nw_at, nw_put, nw_nl0, nw_nlS, nw_no2s, nw_ft, nw_l01, nw_ak, nw_tsw, nw_flat, Value.category, List.mem_cons, List.not_mem_nil, List.length_cons, List.length_nil, or_false, false_or, or_true, true_or, and_true, true_and, and_false, false_and, if_true, if_false, Option.some.injEq, Prod.mk.injEq, and_assoc, exists_and_left, exists_eq_left, exists_eq_left', exists_const, nw_ks, nw_f4, nw_fvs, nw_some, Nat.reduceAdd, nw_sz_I, nw_kd_I, nw_ln_I, nw_rf_I, nw_L_I, nw_I_I, nw_sz_L, nw_kd_L, nw_ln_L, nw_rf_L, nw_I_L, nw_L_L, nw_ob_I, nw_ob_L, nw_obr_I, nw_obr_L, nI_add, nw_b0, nw_b1, nw_b01, not_false_eq_true, not_true_eq_false, false_implies, true_implies, Classical.not_not, nw_i10, decide_eq_false_iff_not, decide_eq_true_eq, ne_eq, Option.toList_some, Option.toList_none, List.cons_append, List.nil_append, reduceIte, Nat.reduceEqDiff, Nat.reduceLT, Nat.reduceLeDiff, Nat.reduceSub, Nat.reduceMul, reduceCtorEq, ↓nwx_aload_n, ↓nwx_bipush, ↓nwx_getfield, ↓nwx_goto, ↓nwx_iadd, ↓nwx_iaload, ↓nwx_iconst, ↓nwx_ifCond, ↓nwx_if_icmp, ↓nwx_iinc, ↓nwx_iload_n, ↓nwx_invokestatic, ↓nwx_ireturn, ↓nwx_istore_n, dmSp_longestFree_0, rmSp_longestFree, h1, h2, h3, h4]; try simp (disch := omega) only [nw_b0, nw_b1, nw_ilt, nw_ile, nw_ieq, nw_icl, nw_iin, nI_add, and_true, true_and, and_false, false_and, not_false_eq_true, not_true_eq_false, false_implies, true_implies, Classical.not_not, ne_eq, reduceIte, Nat.reduceEqDiff, Nat.reduceLT, Nat.reduceLeDiff, Nat.reduceAdd, Nat.reduceSub, Nat.reduceMul, h1, h2, h3, h4])
      exact ⟨_, rfl, rfl, nw_lg_long F⟩
    | succ d ih =>
      intro b hb
      have ih := ih (b + 1) (by omega)
      have hr := nw_rn_le F b
      have hl := (nw_lg_ok F b).1
      (apply V_s1 [6] 24; simp only [nwx_0, nwx_S, nw_s1, nw_pII, nw_pA, nw_tIs, nw_vis, nw_jpx, Option.isSome_some, Option.getD_some, nw_popn, nw_rok, nw_wok, nw_isR, nw_cd, nw_at, nw_put, nw_nl0, nw_nlS, nw_no2s, nw_ft, nw_l01, nw_ak, nw_tsw, nw_flat, Value.category, List.mem_cons, List.not_mem_nil, List.length_cons, List.length_nil, or_false, false_or, or_true, true_or, and_true, true_and, and_false, false_and, if_true, if_false, Option.some.injEq, Prod.mk.injEq, and_assoc, exists_and_left, exists_eq_left, exists_eq_left', exists_const, nw_ks, nw_f4, nw_fvs, nw_some, Nat.reduceAdd, nw_sz_I, nw_kd_I, nw_ln_I, nw_rf_I, nw_L_I, nw_I_I, nw_sz_L, nw_kd_L, nw_ln_L, nw_rf_L, nw_I_L, nw_L_L, nw_ob_I, nw_ob_L, nw_obr_I, nw_obr_L, nI_add, nw_b0, nw_b1, nw_b01, not_false_eq_true, not_true_eq_false, false_implies, true_implies, Classical.not_not, nw_i10, decide_eq_false_iff_not, decide_eq_true_eq, ne_eq, Option.toList_some, Option.toList_none, List.cons_append, List.nil_append, reduceIte, Nat.reduceEqDiff, Nat.reduceLT, Nat.reduceLeDiff, Nat.reduceSub, Nat.reduceMul, reduceCtorEq, ↓nwx_aload_n, ↓nwx_bipush, ↓nwx_getfield, ↓nwx_goto, ↓nwx_iadd, ↓nwx_iaload, ↓nwx_iconst, ↓nwx_ifCond, ↓nwx_if_icmp, ↓nwx_iinc, ↓nwx_iload_n, ↓nwx_invokestatic, ↓nwx_ireturn, ↓nwx_istore_n, dmSp_longestFree_0, rmSp_longestFree, h1, h2, h3, h4, nw_ifI]; try simp (disch := omega) only [nw_b0, nw_b1, nw_ilt, nw_ile, nw_ieq, nw_icl, nw_iin, nI_add, and_true, true_and, and_false, false_and, not_false_eq_true, not_true_eq_false, false_implies, true_implies, Classical.not_not, ne_eq, reduceIte, Nat.reduceEqDiff, Nat.reduceLT, Nat.reduceLeDiff, Nat.reduceAdd, Nat.reduceSub, Nat.reduceMul, h1, h2, h3, h4, nw_ifI])
      refine ⟨fun h => absurd h (by omega), fun _ => ⟨by omega, fun h => ?_, fun h => ?_⟩⟩
      · have hb : F b = false := by rw [← hF]; exact decide_eq_false h
        simp only [nw_lg, nw_rn, hb, Bool.false_eq_true, if_false] at ih
        exact ih
      · have hb : F b = true := by rw [← hF]; exact decide_eq_true h
        simp only [nw_lg, nw_rn, hb, if_true] at ih
        exact ih
  rw [emSp_longestFree]
  (apply V_s1 [6] 8; simp only [nwx_0, nwx_S, nw_s1, nw_pII, nw_pA, nw_tIs, nw_vis, nw_jpx, Option.isSome_some, Option.getD_some, nw_popn, nw_rok, nw_wok, nw_isR, nw_cd, nw_at, nw_put, nw_nl0, nw_nlS, nw_no2s, nw_ft, nw_l01, nw_ak, nw_tsw, nw_flat, Value.category, List.mem_cons, List.not_mem_nil, List.length_cons, List.length_nil, or_false, false_or, or_true, true_or, and_true, true_and, and_false, false_and, if_true, if_false, Option.some.injEq, Prod.mk.injEq, and_assoc, exists_and_left, exists_eq_left, exists_eq_left', exists_const, nw_ks, nw_f4, nw_fvs, nw_some, Nat.reduceAdd, nw_sz_I, nw_kd_I, nw_ln_I, nw_rf_I, nw_L_I, nw_I_I, nw_sz_L, nw_kd_L, nw_ln_L, nw_rf_L, nw_I_L, nw_L_L, nw_ob_I, nw_ob_L, nw_obr_I, nw_obr_L, nI_add, nw_b0, nw_b1, nw_b01, not_false_eq_true, not_true_eq_false, false_implies, true_implies, Classical.not_not, nw_i10, decide_eq_false_iff_not, decide_eq_true_eq, ne_eq, Option.toList_some, Option.toList_none, List.cons_append, List.nil_append, reduceIte, Nat.reduceEqDiff, Nat.reduceLT, Nat.reduceLeDiff, Nat.reduceSub, Nat.reduceMul, reduceCtorEq, ↓nwx_iconst, ↓nwx_istore_n, dmSp_longestFree_0, rmSp_longestFree]; try simp (disch := omega) only [nw_b0, nw_b1, nw_ilt, nw_ile, nw_ieq, nw_icl, nw_iin, nI_add, and_true, true_and, and_false, false_and, not_false_eq_true, not_true_eq_false, false_implies, true_implies, Classical.not_not, ne_eq, reduceIte, Nat.reduceEqDiff, Nat.reduceLT, Nat.reduceLeDiff, Nat.reduceAdd, Nat.reduceSub, Nat.reduceMul])
  exact loop 24 0 rfl
set_option maxRecDepth 20000 in
theorem c_Sp_take {w : nw_W} {a o m c : Nat} (id : Int32) (hm : 1 ≤ m) (hm2 : m ≤ 24) (hc : c + m ≤ 24) (hr : nw_room (nw_fr0 (nw_I w o)) m (nI c)) (h1 : nw_ob w a 5) (h2 : nw_rf w a 0 = some o) (h3 : nw_ob w o 16) (h4 : nw_ln w o = 24) : V mSp_take 0 (nw_ent mSp_take [.ref a, .int id, .int (nI m)]) [] w 0 0 (nw_rw (nw_setI w o (fun x => if c ≤ x ∧ x < c + m then id else nw_I w o x))) := by
  generalize hu : nw_setI w o (fun x => if c ≤ x ∧ x < c + m then id else nw_I w o x) = u
  have loop : ∀ d b, b + d = c + m → c ≤ b → ∀ f : Nat → Int32, f = (fun x => if c ≤ x ∧ x < b then id else nw_I w o x) → V mSp_take 14 [.ref a, .int id, .int (nI m), .int (nI c), .int (nI b)] [] (nw_setI w o f) 0 0 (nw_rw u) := by
    intro d
    induction d with
    | zero =>
      intro b hb hcb f hf
      have hb : b = c + m := by omega
      subst hb
      (apply V_s1 [14] 15; simp only [nwx_0, nwx_S, nw_s1, nw_pII, nw_pA, nw_tIs, nw_vis, nw_jpx, Option.isSome_some, Option.getD_some, nw_popn, nw_rok, nw_wok, nw_isR, nw_cd, nw_at, nw_put, nw_nl0, nw_nlS, nw_no2s, nw_ft, nw_l01, nw_ak, nw_tsw, nw_flat, Value.category, List.mem_cons, List.not_mem_nil, List.length_cons, List.length_nil, or_false, false_or, or_true, true_or, and_true, true_and, and_false, false_and, if_true, if_false, Option.some.injEq, Prod.mk.injEq, and_assoc, exists_and_left, exists_eq_left, exists_eq_left', exists_const, nw_ks, nw_f4, nw_fvs, nw_some, Nat.reduceAdd, nw_sz_I, nw_kd_I, nw_ln_I, nw_rf_I, nw_L_I, nw_I_I, nw_sz_L, nw_kd_L, nw_ln_L, nw_rf_L, nw_I_L, nw_L_L, nw_ob_I, nw_ob_L, nw_obr_I, nw_obr_L, nI_add, nw_b0, nw_b1, nw_b01, not_false_eq_true, not_true_eq_false, false_implies, true_implies, Classical.not_not, nw_i10, decide_eq_false_iff_not, decide_eq_true_eq, ne_eq, Option.toList_some, Option.toList_none, List.cons_append, List.nil_append, reduceIte, Nat.reduceEqDiff, Nat.reduceLT, Nat.reduceLeDiff, Nat.reduceSub, Nat.reduceMul, reduceCtorEq, ↓nwx_aload_n, ↓nwx_getfield, ↓nwx_goto, ↓nwx_iadd, ↓nwx_iastore, ↓nwx_if_icmp, ↓nwx_iinc, ↓nwx_iload, ↓nwx_iload_n, ↓nwx_return_, dmSp_take_0, rmSp_take, h1, h2, h3, h4, va_up_self]; try simp (disch := omega) only [nw_b0, nw_b1, nw_ilt, nw_ile, nw_ieq, nw_icl, nw_iin, nI_add, and_true, true_and, and_false, false_and, not_false_eq_true, not_true_eq_false, false_implies, true_implies, Classical.not_not, ne_eq, reduceIte, Nat.reduceEqDiff, Nat.reduceLT, Nat.reduceLeDiff, Nat.reduceAdd, Nat.reduceSub, Nat.reduceMul, h1, h2, h3, h4, va_up_self])
      exact ⟨fun _ => ⟨rfl, by rw [hf]; exact hu⟩, fun h => absurd (Nat.le_refl _) h⟩
    | succ d ih =>
      intro b hb hcb f hf
      (apply V_s1 [14] 15; simp only [nwx_0, nwx_S, nw_s1, nw_pII, nw_pA, nw_tIs, nw_vis, nw_jpx, Option.isSome_some, Option.getD_some, nw_popn, nw_rok, nw_wok, nw_isR, nw_cd, nw_at, nw_put, nw_nl0, nw_nlS, nw_no2s, nw_ft, nw_l01, nw_ak, nw_tsw, nw_flat, Value.category, List.mem_cons, List.not_mem_nil, List.length_cons, List.length_nil, or_false, false_or, or_true, true_or, and_true, true_and, and_false, false_and, if_true, if_false, Option.some.injEq, Prod.mk.injEq, and_assoc, exists_and_left, exists_eq_left, exists_eq_left', exists_const, nw_ks, nw_f4, nw_fvs, nw_some, Nat.reduceAdd, nw_sz_I, nw_kd_I, nw_ln_I, nw_rf_I, nw_L_I, nw_I_I, nw_sz_L, nw_kd_L, nw_ln_L, nw_rf_L, nw_I_L, nw_L_L, nw_ob_I, nw_ob_L, nw_obr_I, nw_obr_L, nI_add, nw_b0, nw_b1, nw_b01, not_false_eq_true, not_true_eq_false, false_implies, true_implies, Classical.not_not, nw_i10, decide_eq_false_iff_not, decide_eq_true_eq, ne_eq, Option.toList_some, Option.toList_none, List.cons_append, List.nil_append, reduceIte, Nat.reduceEqDiff, Nat.reduceLT, Nat.reduceLeDiff, Nat.reduceSub, Nat.reduceMul, reduceCtorEq, ↓nwx_aload_n, ↓nwx_getfield, ↓nwx_goto, ↓nwx_iadd, ↓nwx_iastore, ↓nwx_if_icmp, ↓nwx_iinc, ↓nwx_iload, ↓nwx_iload_n, ↓nwx_return_, dmSp_take_0, rmSp_take, h1, h2, h3, h4, va_up_self, nw_setI2]; try simp (disch := omega) only [nw_b0, nw_b1, nw_ilt, nw_ile, nw_ieq, nw_icl, nw_iin, nI_add, and_true, true_and, and_false, false_and, not_false_eq_true, not_true_eq_false, false_implies, true_implies, Classical.not_not, ne_eq, reduceIte, Nat.reduceEqDiff, Nat.reduceLT, Nat.reduceLeDiff, Nat.reduceAdd, Nat.reduceSub, Nat.reduceMul, h1, h2, h3, h4, va_up_self, nw_setI2])
      refine ⟨fun h => absurd h (by omega), fun _ => ⟨by omega, ih (b + 1) (by omega) (by omega) _ ?_⟩⟩
      rw [hf]
      funext x
      unfold upd
      by_cases hx : x = b
      · subst hx; simp [hcb]
      · have : (x < b + 1) = (x < b) := propext (by omega)
        simp only [if_neg hx, this]
  rw [emSp_take]
  (apply V_s1 [14] 5; simp only [nwx_0, nwx_S, nw_s1, nw_pII, nw_pA, nw_tIs, nw_vis, nw_jpx, Option.isSome_some, Option.getD_some, nw_popn, nw_rok, nw_wok, nw_isR, nw_cd, nw_at, nw_put, nw_nl0, nw_nlS, nw_no2s, nw_ft, nw_l01, nw_ak, nw_tsw, nw_flat, Value.category, List.mem_cons, List.not_mem_nil, List.length_cons, List.length_nil, or_false, false_or, or_true, true_or, and_true, true_and, and_false, false_and, if_true, if_false, Option.some.injEq, Prod.mk.injEq, and_assoc, exists_and_left, exists_eq_left, exists_eq_left', exists_const, nw_ks, nw_f4, nw_fvs, nw_some, Nat.reduceAdd, nw_sz_I, nw_kd_I, nw_ln_I, nw_rf_I, nw_L_I, nw_I_I, nw_sz_L, nw_kd_L, nw_ln_L, nw_rf_L, nw_I_L, nw_L_L, nw_ob_I, nw_ob_L, nw_obr_I, nw_obr_L, nI_add, nw_b0, nw_b1, nw_b01, not_false_eq_true, not_true_eq_false, false_implies, true_implies, Classical.not_not, nw_i10, decide_eq_false_iff_not, decide_eq_true_eq, ne_eq, Option.toList_some, Option.toList_none, List.cons_append, List.nil_append, reduceIte, Nat.reduceEqDiff, Nat.reduceLT, Nat.reduceLeDiff, Nat.reduceSub, Nat.reduceMul, reduceCtorEq, ↓nwx_aload_n, ↓nwx_iload_n, ↓nwx_invokevirtual, dmSp_take_0, rmSp_take, h1]; try simp (disch := omega) only [nw_b0, nw_b1, nw_ilt, nw_ile, nw_ieq, nw_icl, nw_iin, nI_add, and_true, true_and, and_false, false_and, not_false_eq_true, not_true_eq_false, false_implies, true_implies, Classical.not_not, ne_eq, reduceIte, Nat.reduceEqDiff, Nat.reduceLT, Nat.reduceLeDiff, Nat.reduceAdd, Nat.reduceSub, Nat.reduceMul, h1])
  refine nw_do0 (c_Sp_placeFor hm hm2 h1 h2 h3 h4) ?_
  rintro r w' ⟨x, rfl, rfl, hx⟩
  obtain rfl := nw_room_un hx hr
  (apply V_s1 [14] 9; simp only [nwx_0, nwx_S, nw_s1, nw_pII, nw_pA, nw_tIs, nw_vis, nw_jpx, Option.isSome_some, Option.getD_some, nw_popn, nw_rok, nw_wok, nw_isR, nw_cd, nw_at, nw_put, nw_nl0, nw_nlS, nw_no2s, nw_ft, nw_l01, nw_ak, nw_tsw, nw_flat, Value.category, List.mem_cons, List.not_mem_nil, List.length_cons, List.length_nil, or_false, false_or, or_true, true_or, and_true, true_and, and_false, false_and, if_true, if_false, Option.some.injEq, Prod.mk.injEq, and_assoc, exists_and_left, exists_eq_left, exists_eq_left', exists_const, nw_ks, nw_f4, nw_fvs, nw_some, Nat.reduceAdd, nw_sz_I, nw_kd_I, nw_ln_I, nw_rf_I, nw_L_I, nw_I_I, nw_sz_L, nw_kd_L, nw_ln_L, nw_rf_L, nw_I_L, nw_L_L, nw_ob_I, nw_ob_L, nw_obr_I, nw_obr_L, nI_add, nw_b0, nw_b1, nw_b01, not_false_eq_true, not_true_eq_false, false_implies, true_implies, Classical.not_not, nw_i10, decide_eq_false_iff_not, decide_eq_true_eq, ne_eq, Option.toList_some, Option.toList_none, List.cons_append, List.nil_append, reduceIte, Nat.reduceEqDiff, Nat.reduceLT, Nat.reduceLeDiff, Nat.reduceSub, Nat.reduceMul, reduceCtorEq, ↓nwx_iconst, ↓nwx_if_icmp, ↓nwx_iload_n, ↓nwx_istore, ↓nwx_istore_n, ↓nwx_return_, dmSp_take_0, rmSp_take, h1, nw_im1]; try simp (disch := omega) only [nw_b0, nw_b1, nw_ilt, nw_ile, nw_ieq, nw_icl, nw_iin, nI_add, and_true, true_and, and_false, false_and, not_false_eq_true, not_true_eq_false, false_implies, true_implies, Classical.not_not, ne_eq, reduceIte, Nat.reduceEqDiff, Nat.reduceLT, Nat.reduceLeDiff, Nat.reduceAdd, Nat.reduceSub, Nat.reduceMul, h1, nw_im1])
  have := loop m c (by omega) (Nat.le_refl _) _ rfl
  rw [nw_setI_id (by funext x; rw [if_neg (by omega)])] at this
  exact this
