/-! NewsFlood's calls of a reader: select, step, stat -/
section NU
variable {n B : Nat} {w : nw_W} {S : nw_Q}
theorem nw_J_sel {s : Nat} {w' : nw_W} {S' : nw_Q} (hJ : nw_J n w S B) (hs : s < n) (hc : nw_chg n s w w') (hI : ∀ k, k ≠ 0 → nw_I w' (nw_S n s k) = nw_I w (nw_S n s k)) (hL : nw_L w' (nw_S n s 18) = nw_L w (nw_S n s 18)) (hS : ∀ f, f ≠ 26 → f ≠ 27 → S'.1 f = S.1 f) (hS2 : S'.2 = S.2) (hSt : ∀ t, t ≠ s → S'.1 26 t = S.1 26 t ∧ S'.1 27 t = S.1 27 t) (hsel : j_sel s (nw_c n w' s) S' (B + 1)) : nw_J n w' S' (B + 1) ∧ nw_fm n w w' := by
  have hn4 := hJ.1.2.1
  have e : ∀ f, f < 26 → S'.1 f = S.1 f := fun f hf => hS f (by omega) (by omega)
  obtain ⟨r1, r2, r3⟩ := hJ.2.1
  refine nw_J_s hJ hs hc ⟨fun l hl => by rw [e 20 (by omega)]; exact r1 l hl, fun t ht => by rw [e 21 (by omega)]; exact r2 t ht, fun i hi => by rw [e 8 (by omega)]; exact r3 i hi⟩ (e 3 (by omega)) (by rw [hS2]) ⟨e 5 (by omega), e 6 (by omega), e 7 (by omega), e 8 (by omega), e 9 (by omega)⟩ (fun t ht hts => ?_) ?_
  · refine ⟨fun i _ _ => ⟨by rw [e 12 (by omega)], by rw [e 13 (by omega)], by rw [e 14 (by omega)], by rw [e 15 (by omega)], by rw [e 16 (by omega)]⟩, fun g _ => ⟨by rw [e 10 (by omega)], by rw [e 11 (by omega)]⟩, fun i g _ _ _ => by rw [e 17 (by omega)], fun f h1 h2 => ?_, fun t' _ => ⟨by rw [hS2], by rw [e 20 (by omega)]⟩, fun t' k _ _ => by rw [e 19 (by omega)]⟩
    by_cases h26 : f = 26
    · rw [h26]; exact (hSt t hts).1
    · by_cases h27 : f = 27
      · rw [h27]; exact (hSt t hts).2
      · rw [hS f h26 h27]
  · obtain ⟨p1, p2, p3, p4, p5, p6, p7, p8⟩ := j_sv hJ hs
    have kp : j_keep S S' := fun i _ _ q => ⟨by rw [e 9 (by omega)]; exact q, by rw [e 7 (by omega)]⟩
    have s12 := e 12 (by omega)
    have hk : ∀ k, k ≠ 0 → nw_c n w' s k = nw_c n w s k := hI
    exact ⟨j_ent_c p1 ⟨hk 4 (by omega), hk 5 (by omega), hk 16 (by omega), hk 17 (by omega)⟩ (fun i _ _ => ⟨by rw [s12], by rw [e 13 (by omega)], by rw [e 14 (by omega)], by rw [e 16 (by omega)]⟩) kp, j_grp_c p2 ⟨hk 7 (by omega), hk 8 (by omega), fun g hg => hk (10 + g) (by omega)⟩ (by omega) (fun g hg => ⟨by rw [e 10 (by omega)], by rw [e 11 (by omega)]⟩) (fun i g _ _ _ => by rw [e 17 (by omega)]) (fun i _ _ => Or.inr (Or.inr (by rw [s12]))) (fun i _ _ q => by rw [s12]; exact q), j_cnt_c p3 (hk 3 (by omega)) (fun i _ _ => by rw [s12]), j_int_c p4 (hk 6 (by omega)) ⟨by rw [e 21 (by omega)], by rw [e 22 (by omega)], by rw [e 24 (by omega)], by rw [e 25 (by omega)]⟩ (fun i _ _ => by rw [s12]) kp, hsel, j_own_c p6 (hk 2 (by omega)) ⟨by rw [e 21 (by omega)], by rw [e 23 (by omega)]⟩ (fun i _ _ => ⟨by rw [s12], by rw [e 15 (by omega)]⟩) (fun i _ _ _ => by rw [e 7 (by omega)]), j_pat_c p7 hL (fun t _ => by rw [hS2]), j_bl_c p8 (fun t ht => ⟨hk _ (by omega), hk _ (by omega)⟩) (fun t _ => by rw [e 20 (by omega)]) (fun t k _ _ => by rw [e 19 (by omega)]) (fun i _ _ q => by rw [s12]; exact q)⟩
theorem nw_at1_no {f : Nat → Int32} {x : Int32} : ∀ k, (∀ i, 1 ≤ i → i ≤ k → f i ≠ x) → nw_at1 f x k = 0
  | 0, _ => rfl
  | k + 1, h => by
    simp only [nw_at1, nw_at1_no k (fun i a b => h i a (by omega)), if_neg (h (k + 1) (by omega) (Nat.le_refl _)), ne_eq, not_true_eq_false, if_false]
theorem nw_at1_in {f : Nat → Int32} {x : Int32} : ∀ k, nw_at1 f x k ≠ 0 → ∃ i, 1 ≤ i ∧ i ≤ k ∧ f i = x
  | 0, h => absurd rfl h
  | k + 1, h => by
    by_cases h1 : nw_at1 f x k = 0
    · by_cases h2 : f (k + 1) = x
      · exact ⟨k + 1, by omega, Nat.le_refl _, h2⟩
      · exact absurd (by simp only [nw_at1, h1, if_neg h2, ne_eq, not_true_eq_false, if_false]) h
    · obtain ⟨i, a, b, c⟩ := nw_at1_in k h1
      exact ⟨i, a, by omega, c⟩
set_option maxRecDepth 20000 in
theorem p_Nf_select (x y : Int32) (hJ : nw_J n w S B) (hB : B ≤ 100000) : V mNf_select 0 (nw_ent mNf_select [.ref 1, .int x, .int y]) [] w 0 0 (nw_rj n B w (q_select S x y)) := by
  have hO := hJ.1
  have hn4 := hO.2.1
  have hc := nw_cf hO
  obtain ⟨p, hp⟩ : ∃ p, p = q_select S x y := ⟨_, rfl⟩
  rw [← hp, emNf_select]
  unfold q_select at hp
  (apply V_s1 [] 6; simp only [nwx_0, nwx_S, nw_s1, nw_pII, nw_pA, nw_tIs, nw_vis, nw_jpx, Option.isSome_some, Option.getD_some, nw_popn, nw_rok, nw_wok, nw_isR, nw_cd, nw_at, nw_put, nw_nl0, nw_nlS, nw_no2s, nw_ft, nw_l01, nw_ak, nw_tsw, nw_flat, Value.category, List.mem_cons, List.not_mem_nil, List.length_cons, List.length_nil, or_false, false_or, or_true, true_or, and_true, true_and, and_false, false_and, if_true, if_false, Option.some.injEq, Prod.mk.injEq, and_assoc, exists_and_left, exists_eq_left, exists_eq_left', exists_const, nw_ks, nw_f4, nw_fvs, nw_some, Nat.reduceAdd, nw_sz_I, nw_kd_I, nw_ln_I, nw_rf_I, nw_L_I, nw_I_I, nw_sz_L, nw_kd_L, nw_ln_L, nw_rf_L, nw_I_L, nw_L_L, nw_ob_I, nw_ob_L, nw_obr_I, nw_obr_L, nI_add, nw_b0, nw_b1, nw_b01, not_false_eq_true, not_true_eq_false, false_implies, true_implies, Classical.not_not, nw_i10, decide_eq_false_iff_not, decide_eq_true_eq, ne_eq, Option.toList_some, Option.toList_none, List.cons_append, List.nil_append, reduceIte, Nat.reduceEqDiff, Nat.reduceLT, Nat.reduceLeDiff, Nat.reduceSub, Nat.reduceMul, reduceCtorEq, ↓nwx_aload_n, ↓nwx_iload_n, ↓nwx_invokevirtual, dmNf_select_0, rmNf_select, hc]; try simp (disch := omega) only [nw_b0, nw_b1, nw_ilt, nw_ile, nw_ieq, nw_icl, nw_iin, nI_add, and_true, true_and, and_false, false_and, not_false_eq_true, not_true_eq_false, false_implies, true_implies, Classical.not_not, ne_eq, reduceIte, Nat.reduceEqDiff, Nat.reduceLT, Nat.reduceLeDiff, Nat.reduceAdd, Nat.reduceSub, Nat.reduceMul, hc])
  refine nw_do0 (c_Nf_carries x y hO) ?_
  rintro r w' ⟨rfl, rfl⟩
  rw [k_car_q hJ]
  by_cases hx : q_srv S x = true ∧ q_car2 S x.toNatClampNeg y = true
  case neg =>
    rw [show (q_srv S x && q_car2 S x.toNatClampNeg y) = false from eq_false_of_ne_true (fun q => hx (by simpa using q))]
    (apply V_s1 [11] 5; simp only [nwx_0, nwx_S, nw_s1, nw_pII, nw_pA, nw_tIs, nw_vis, nw_jpx, Option.isSome_some, Option.getD_some, nw_popn, nw_rok, nw_wok, nw_isR, nw_cd, nw_at, nw_put, nw_nl0, nw_nlS, nw_no2s, nw_ft, nw_l01, nw_ak, nw_tsw, nw_flat, Value.category, List.mem_cons, List.not_mem_nil, List.length_cons, List.length_nil, or_false, false_or, or_true, true_or, and_true, true_and, and_false, false_and, if_true, if_false, Option.some.injEq, Prod.mk.injEq, and_assoc, exists_and_left, exists_eq_left, exists_eq_left', exists_const, nw_ks, nw_f4, nw_fvs, nw_some, Nat.reduceAdd, nw_sz_I, nw_kd_I, nw_ln_I, nw_rf_I, nw_L_I, nw_I_I, nw_sz_L, nw_kd_L, nw_ln_L, nw_rf_L, nw_I_L, nw_L_L, nw_ob_I, nw_ob_L, nw_obr_I, nw_obr_L, nI_add, nw_b0, nw_b1, nw_b01, not_false_eq_true, not_true_eq_false, false_implies, true_implies, Classical.not_not, nw_i10, decide_eq_false_iff_not, decide_eq_true_eq, ne_eq, Option.toList_some, Option.toList_none, List.cons_append, List.nil_append, reduceIte, Nat.reduceEqDiff, Nat.reduceLT, Nat.reduceLeDiff, Nat.reduceSub, Nat.reduceMul, reduceCtorEq, ↓nwx_iconst, ↓nwx_ifCond, ↓nwx_ireturn, dmNf_select_0, rmNf_select, nw_b_f]; try simp (disch := omega) only [nw_b0, nw_b1, nw_ilt, nw_ile, nw_ieq, nw_icl, nw_iin, nI_add, and_true, true_and, and_false, false_and, not_false_eq_true, not_true_eq_false, false_implies, true_implies, Classical.not_not, ne_eq, reduceIte, Nat.reduceEqDiff, Nat.reduceLT, Nat.reduceLeDiff, Nat.reduceAdd, Nat.reduceSub, Nat.reduceMul, nw_b_f])
    rw [hp, if_neg hx]
    exact nw_rj_q hJ
  rw [if_pos hx] at hp
  rw [hx.1, hx.2]
  obtain ⟨s, hs, rfl⟩ := q_srv_ok (j_g3 hJ) hn4 hx.1
  have hcs : (nI s).toNatClampNeg = s := nI_clamp (by omega)
  have hx2 := hx.2
  unfold q_car2 at hx2
  rw [Bool.and_eq_true, decide_eq_true_eq] at hx2
  obtain ⟨g, hg, rfl⟩ := nw_iof hx2.1.1
  have hg6 : g < 6 := (nI_ltI (by omega) (by omega)).mp hx2.1.2
  have hcg : (nI g).toNatClampNeg = g := nI_clamp (by omega)
  rw [hcs, hcg] at hp
  have hsv := nw_cs hO hs
  have hv := nw_Ok_sv hO hs
  unfold nw_Sv at hv
  obtain ⟨a1, a2, -⟩ := (j_sv hJ hs).2.1 g hg6
  have a2 : nw_I w' (nw_S n s 8) g = _ := a2
  (apply V_s1 [] 22; simp only [nwx_0, nwx_S, nw_s1, nw_pII, nw_pA, nw_tIs, nw_vis, nw_jpx, Option.isSome_some, Option.getD_some, nw_popn, nw_rok, nw_wok, nw_isR, nw_cd, nw_at, nw_put, nw_nl0, nw_nlS, nw_no2s, nw_ft, nw_l01, nw_ak, nw_tsw, nw_flat, Value.category, List.mem_cons, List.not_mem_nil, List.length_cons, List.length_nil, or_false, false_or, or_true, true_or, and_true, true_and, and_false, false_and, if_true, if_false, Option.some.injEq, Prod.mk.injEq, and_assoc, exists_and_left, exists_eq_left, exists_eq_left', exists_const, nw_ks, nw_f4, nw_fvs, nw_some, Nat.reduceAdd, nw_sz_I, nw_kd_I, nw_ln_I, nw_rf_I, nw_L_I, nw_I_I, nw_sz_L, nw_kd_L, nw_ln_L, nw_rf_L, nw_I_L, nw_L_L, nw_ob_I, nw_ob_L, nw_obr_I, nw_obr_L, nI_add, nw_b0, nw_b1, nw_b01, not_false_eq_true, not_true_eq_false, false_implies, true_implies, Classical.not_not, nw_i10, decide_eq_false_iff_not, decide_eq_true_eq, ne_eq, Option.toList_some, Option.toList_none, List.cons_append, List.nil_append, reduceIte, Nat.reduceEqDiff, Nat.reduceLT, Nat.reduceLeDiff, Nat.reduceSub, Nat.reduceMul, reduceCtorEq, ↓nwx_aaload, ↓nwx_aload_n, ↓nwx_getfield, ↓nwx_iconst, ↓nwx_ifCond, ↓nwx_iload_n, ↓nwx_invokevirtual, ↓nwx_ireturn, ↓nwx_putI, ↓nwx_putR, dmNf_select_0, rmNf_select, Bool.and_true, nw_b_t, hc, hsv, hv, hcs]; try simp (disch := omega) only [nw_b0, nw_b1, nw_ilt, nw_ile, nw_ieq, nw_icl, nw_iin, nI_add, and_true, true_and, and_false, false_and, not_false_eq_true, not_true_eq_false, false_implies, true_implies, Classical.not_not, ne_eq, reduceIte, Nat.reduceEqDiff, Nat.reduceLT, Nat.reduceLeDiff, Nat.reduceAdd, Nat.reduceSub, Nat.reduceMul, Bool.and_true, nw_b_t, hc, hsv, hv, hcs])
  refine ⟨hs, hs, hs, nw_do0 (c_Se_nextNumber (nI 0) hg6 (nw_Ok_1 (w := w') rfl hO) hs) ?_⟩
  rintro r w2 ⟨rfl, rfl⟩
  rw [nw_S_Ine (show 10 + g ≠ 0 by omega)]
  (apply V_s1 [] 9; simp only [nwx_0, nwx_S, nw_s1, nw_pII, nw_pA, nw_tIs, nw_vis, nw_jpx, Option.isSome_some, Option.getD_some, nw_popn, nw_rok, nw_wok, nw_isR, nw_cd, nw_at, nw_put, nw_nl0, nw_nlS, nw_no2s, nw_ft, nw_l01, nw_ak, nw_tsw, nw_flat, Value.category, List.mem_cons, List.not_mem_nil, List.length_cons, List.length_nil, or_false, false_or, or_true, true_or, and_true, true_and, and_false, false_and, if_true, if_false, Option.some.injEq, Prod.mk.injEq, and_assoc, exists_and_left, exists_eq_left, exists_eq_left', exists_const, nw_ks, nw_f4, nw_fvs, nw_some, Nat.reduceAdd, nw_sz_I, nw_kd_I, nw_ln_I, nw_rf_I, nw_L_I, nw_I_I, nw_sz_L, nw_kd_L, nw_ln_L, nw_rf_L, nw_I_L, nw_L_L, nw_ob_I, nw_ob_L, nw_obr_I, nw_obr_L, nI_add, nw_b0, nw_b1, nw_b01, not_false_eq_true, not_true_eq_false, false_implies, true_implies, Classical.not_not, nw_i10, decide_eq_false_iff_not, decide_eq_true_eq, ne_eq, Option.toList_some, Option.toList_none, List.cons_append, List.nil_append, reduceIte, Nat.reduceEqDiff, Nat.reduceLT, Nat.reduceLeDiff, Nat.reduceSub, Nat.reduceMul, reduceCtorEq, ↓nwx_aaload, ↓nwx_aload_n, ↓nwx_getfield, ↓nwx_iload_n, ↓nwx_invokevirtual, ↓nwx_putI, ↓nwx_putR, dmNf_select_0, rmNf_select, hc, hsv, hv, hcs]; try simp (disch := omega) only [nw_b0, nw_b1, nw_ilt, nw_ile, nw_ieq, nw_icl, nw_iin, nI_add, and_true, true_and, and_false, false_and, not_false_eq_true, not_true_eq_false, false_implies, true_implies, Classical.not_not, ne_eq, reduceIte, Nat.reduceEqDiff, Nat.reduceLT, Nat.reduceLeDiff, Nat.reduceAdd, Nat.reduceSub, Nat.reduceMul, hc, hsv, hv, hcs])
  refine ⟨hs, nw_do0 (c_Se_countAll hg6 (nw_Ok_1 (w := w') rfl hO) hs) ?_⟩
  rintro r w2 ⟨rfl, rfl⟩
  rw [nw_S_Ine (show 10 + g ≠ 0 by omega), nw_S_Ine (show 10 + g ≠ 0 by omega), nw_S_Ine (show 8 ≠ 0 by omega), nw_S_Ine (show 8 ≠ 0 by omega), a2, j_count hJ hB hs hg6]
  (apply V_s1 [] 3; simp only [nwx_0, nwx_S, nw_s1, nw_pII, nw_pA, nw_tIs, nw_vis, nw_jpx, Option.isSome_some, Option.getD_some, nw_popn, nw_rok, nw_wok, nw_isR, nw_cd, nw_at, nw_put, nw_nl0, nw_nlS, nw_no2s, nw_ft, nw_l01, nw_ak, nw_tsw, nw_flat, Value.category, List.mem_cons, List.not_mem_nil, List.length_cons, List.length_nil, or_false, false_or, or_true, true_or, and_true, true_and, and_false, false_and, if_true, if_false, Option.some.injEq, Prod.mk.injEq, and_assoc, exists_and_left, exists_eq_left, exists_eq_left', exists_const, nw_ks, nw_f4, nw_fvs, nw_some, Nat.reduceAdd, nw_sz_I, nw_kd_I, nw_ln_I, nw_rf_I, nw_L_I, nw_I_I, nw_sz_L, nw_kd_L, nw_ln_L, nw_rf_L, nw_I_L, nw_L_L, nw_ob_I, nw_ob_L, nw_obr_I, nw_obr_L, nI_add, nw_b0, nw_b1, nw_b01, not_false_eq_true, not_true_eq_false, false_implies, true_implies, Classical.not_not, nw_i10, decide_eq_false_iff_not, decide_eq_true_eq, ne_eq, Option.toList_some, Option.toList_none, List.cons_append, List.nil_append, reduceIte, Nat.reduceEqDiff, Nat.reduceLT, Nat.reduceLeDiff, Nat.reduceSub, Nat.reduceMul, reduceCtorEq, ↓nwx_ireturn, dmNf_select_0, rmNf_select]; try simp (disch := omega) only [nw_b0, nw_b1, nw_ilt, nw_ile, nw_ieq, nw_icl, nw_iin, nI_add, and_true, true_and, and_false, false_and, not_false_eq_true, not_true_eq_false, false_implies, true_implies, Classical.not_not, ne_eq, reduceIte, Nat.reduceEqDiff, Nat.reduceLT, Nat.reduceLeDiff, Nat.reduceAdd, Nat.reduceSub, Nat.reduceMul])
  rw [va_up_self, nw_setI2, hp]
  refine ⟨rfl, nw_J_sel hJ hs (nw_chg_I (nw_chg_r n s w') (by omega) _) (fun k hk => nw_S_Ine hk) rfl (fun f h1 h2 => ?_) rfl (fun t ht => ⟨pk_un ht, pk_un ht⟩) ?_⟩
  · unfold q_sel
    rw [q_i_1, if_neg h2, q_i_1, if_neg h1]
  · have e26 : (q_sel S s g).1 26 s = nI g := pk_us
    have ec : nw_c n (nw_setI w' (nw_S n s 0) (upd (upd (nw_I w' (nw_S n s 0)) 10 (nI g)) 11 (nw_nx (nw_I w' (nw_S n s (10 + g))) (nI 0) 40))) s 0 = upd (upd (nw_I w' (nw_S n s 0)) 10 (nI g)) 11 (nw_nx (nw_I w' (nw_S n s (10 + g))) (nI 0) 40) := nw_S_Ieq
    have e27 : (q_sel S s g).1 27 s = if q_next S s g (nI 1) true = 0 then -1 else q_num S s (q_next S s g (nI 1) true) g := pk_us
    unfold j_sel
    rw [e26, ec, pk_us, pk_un (by decide), pk_us, e27]
    rcases j_next1 hJ hB hs hg6 with ⟨b1, b2⟩ | ⟨j, m, j1, j2, j3, j4, j5, j6, j7⟩
    · rw [if_pos b1, b2]
      exact ⟨rfl, rfl, Or.inr ⟨g, hg6, rfl⟩, Or.inl rfl⟩
    · rw [if_neg (by omega), j7, j3, j4]
      exact ⟨rfl, rfl, Or.inr ⟨g, hg6, rfl⟩, Or.inr ⟨by rw [ne_eq, nI_m1 (by omega)]; exact not_false, m, j5, by omega, rfl⟩⟩
theorem nI_sub1 (b : Nat) : nI (b + 1) - nI 1 = nI b := by
  rw [← nI_add, Int32.add_sub_cancel]
theorem j_step (hJ : nw_J n w S B) (hB : B ≤ 99999) {s g k : Nat} (hs : s < n) (hg : g < 6) (k1 : 1 ≤ k) (kB : k ≤ B) (up : Bool) {X : Int32} (hX : X = if up = true then nw_nx (nw_I w (nw_S n s (10 + g))) (nI k) 40 else nw_pv (nw_I w (nw_S n s (10 + g))) (nI k) 40) :
    (q_next S s g (if up = true then nI k + nI 1 else nI k - nI 1) up = 0 ∧ nw_idn (nw_I w (nw_S n s (10 + g))) X 40 = -1) ∨ ∃ j m, 1 ≤ j ∧ j ≤ 40 ∧ q_next S s g (if up = true then nI k + nI 1 else nI k - nI 1) up = j ∧ q_num S s j g = nI m ∧ 1 ≤ m ∧ m ≤ B ∧ X = nI m ∧ nw_idn (nw_I w (nw_S n s (10 + g))) X 40 = nI j := by
  obtain ⟨N, h1, h2, h3⟩ := j_num hJ hs hg
  have hN : ∀ i, 1 ≤ i → i ≤ 40 → N i ≤ 100000 := fun i a b => by have := h3 i a b; omega
  have hidn : ∀ j, 1 ≤ j → j ≤ 40 → 1 ≤ N j → (∀ i, 1 ≤ i → i < j → N i ≠ N j) → nw_idn (nw_I w (nw_S n s (10 + g))) (nI (N j)) 40 = nI j := fun j a b c d => by
    have hNj := hN j a b
    unfold nw_idn
    rw [nw_at1_un a (h2 j a b) (fun i e f q => by
      have := hN i e (by omega)
      rw [h2 i e (by omega), nI_inj (by omega) (by omega)] at q
      exact d i e f q) 40, if_pos b, if_neg]
    rw [nI_inj (by omega) (by omega)]
    omega
  have hno : nw_idn (nw_I w (nw_S n s (10 + g))) (-1) 40 = -1 := by
    unfold nw_idn
    rw [if_pos (Or.inr (nw_at1_no 40 (fun i a b q => by
      have := hN i a b
      rw [h2 i a b, nI_m1 (by omega)] at q
      exact q)))]
  obtain ⟨b, rfl⟩ : ∃ b, k = b + 1 := ⟨k - 1, by omega⟩
  rw [nI_sub1, nI_add]
  unfold q_next
  cases up
  · simp only [Bool.false_eq_true, if_false] at hX ⊢
    rcases j_nxD (b := b) h1 h2 hN (by omega) 40 (Nat.le_refl _) with ⟨a1, a2, -⟩ | ⟨j, j1, j2, j3, j4, j5, j6, -⟩
    · rw [hX, a2]
      exact Or.inl ⟨a1, hno⟩
    · rw [hX, j4]
      exact Or.inr ⟨j, N j, j1, j2, by rw [j3], h1 j j1 j2, j5, h3 j j1 j2, rfl, hidn j j1 j2 j5 j6⟩
  · simp only [if_true] at hX ⊢
    rcases j_nxU (a := b + 1) h1 h2 hN (by omega) 40 (Nat.le_refl _) with ⟨a1, a2, -⟩ | ⟨j, j1, j2, j3, j4, j5, j6, -⟩
    · rw [hX, a2]
      exact Or.inl ⟨a1, hno⟩
    · rw [hX, j4]
      exact Or.inr ⟨j, N j, j1, j2, by rw [j3], h1 j j1 j2, by omega, h3 j j1 j2, rfl, hidn j j1 j2 (by omega) j6⟩
/-- the reader's number is set -/
theorem nw_J_cur {s g m : Nat} (hJ : nw_J n w S B) (hs : s < n) (hg6 : g < 6) (hg : S.1 26 s = nI g) (m1 : 1 ≤ m) (mB : m ≤ B) : nw_J n (nw_setI w (nw_S n s 0) (upd (nw_I w (nw_S n s 0)) 11 (nI m))) (q_i S 27 s (nI m)) (B + 1) ∧ nw_fm n w (nw_setI w (nw_S n s 0) (upd (nw_I w (nw_S n s 0)) 11 (nI m))) := by
  obtain ⟨s1, s2, s3, s4⟩ := (j_sv hJ hs).2.2.2.2.1
  refine nw_J_sel hJ hs (nw_chg_I (nw_chg_r n s w) (by omega) _) (fun k hk => nw_S_Ine hk) rfl (fun f h1 h2 => by rw [q_i_1, if_neg h2]) rfl (fun t ht => ⟨rfl, pk_un ht⟩) ?_
  have e26 : (q_i S 27 s (nI m)).1 26 s = S.1 26 s := rfl
  have e27 : (q_i S 27 s (nI m)).1 27 s = nI m := pk_us
  have ec : nw_c n (nw_setI w (nw_S n s 0) (upd (nw_I w (nw_S n s 0)) 11 (nI m))) s 0 = upd (nw_I w (nw_S n s 0)) 11 (nI m) := nw_S_Ieq
  unfold j_sel
  rw [e26, e27, ec, pk_us, pk_un (by decide)]
  exact ⟨s1, rfl, s3, Or.inr ⟨by rw [hg, ne_eq, nI_m1 (by omega)]; exact not_false, m, m1, by omega, rfl⟩⟩
set_option maxRecDepth 20000 in
theorem p_Nf_step (x : Int32) (up : Bool) (hJ : nw_J n w S B) (hB : B ≤ 99999) : V mNf_step 0 (nw_ent mNf_step [.ref 1, .int x, .int (nw_b up)]) [] w 0 0 (nw_rj n B w (q_step S x up)) := by
  have hO := hJ.1
  have hn4 := hO.2.1
  have hc := nw_cf hO
  obtain ⟨p, hp⟩ : ∃ p, p = q_step S x up := ⟨_, rfl⟩
  rw [← hp, emNf_step]
  unfold q_step at hp
  have no : ¬ ((q_srv S x = true ∧ ¬ S.1 27 x.toNatClampNeg = -1) ∧ ¬ q_stepN S x.toNatClampNeg up = 0) → nw_rj n B w p (some (.int (-1))) w := fun h => by
    rw [if_neg h] at hp
    rw [hp]
    exact nw_rj_q hJ
  (apply V_s1 [] 5; simp only [nwx_0, nwx_S, nw_s1, nw_pII, nw_pA, nw_tIs, nw_vis, nw_jpx, Option.isSome_some, Option.getD_some, nw_popn, nw_rok, nw_wok, nw_isR, nw_cd, nw_at, nw_put, nw_nl0, nw_nlS, nw_no2s, nw_ft, nw_l01, nw_ak, nw_tsw, nw_flat, Value.category, List.mem_cons, List.not_mem_nil, List.length_cons, List.length_nil, or_false, false_or, or_true, true_or, and_true, true_and, and_false, false_and, if_true, if_false, Option.some.injEq, Prod.mk.injEq, and_assoc, exists_and_left, exists_eq_left, exists_eq_left', exists_const, nw_ks, nw_f4, nw_fvs, nw_some, Nat.reduceAdd, nw_sz_I, nw_kd_I, nw_ln_I, nw_rf_I, nw_L_I, nw_I_I, nw_sz_L, nw_kd_L, nw_ln_L, nw_rf_L, nw_I_L, nw_L_L, nw_ob_I, nw_ob_L, nw_obr_I, nw_obr_L, nI_add, nw_b0, nw_b1, nw_b01, not_false_eq_true, not_true_eq_false, false_implies, true_implies, Classical.not_not, nw_i10, decide_eq_false_iff_not, decide_eq_true_eq, ne_eq, Option.toList_some, Option.toList_none, List.cons_append, List.nil_append, reduceIte, Nat.reduceEqDiff, Nat.reduceLT, Nat.reduceLeDiff, Nat.reduceSub, Nat.reduceMul, reduceCtorEq, ↓nwx_aload_n, ↓nwx_iload_n, ↓nwx_invokevirtual, dmNf_step_0, rmNf_step, hc]; try simp (disch := omega) only [nw_b0, nw_b1, nw_ilt, nw_ile, nw_ieq, nw_icl, nw_iin, nI_add, and_true, true_and, and_false, false_and, not_false_eq_true, not_true_eq_false, false_implies, true_implies, Classical.not_not, ne_eq, reduceIte, Nat.reduceEqDiff, Nat.reduceLT, Nat.reduceLeDiff, Nat.reduceAdd, Nat.reduceSub, Nat.reduceMul, hc])
  refine nw_do0 (c_Nf_hasSelected x hO) ?_
  rintro r w' ⟨rfl, rfl⟩
  rw [k_sel_q hJ]
  by_cases hx : q_srv S x = true
  case neg =>
    rw [eq_false_of_ne_true hx, Bool.false_and]
    (apply V_s1 [23] 12; simp only [nwx_0, nwx_S, nw_s1, nw_pII, nw_pA, nw_tIs, nw_vis, nw_jpx, Option.isSome_some, Option.getD_some, nw_popn, nw_rok, nw_wok, nw_isR, nw_cd, nw_at, nw_put, nw_nl0, nw_nlS, nw_no2s, nw_ft, nw_l01, nw_ak, nw_tsw, nw_flat, Value.category, List.mem_cons, List.not_mem_nil, List.length_cons, List.length_nil, or_false, false_or, or_true, true_or, and_true, true_and, and_false, false_and, if_true, if_false, Option.some.injEq, Prod.mk.injEq, and_assoc, exists_and_left, exists_eq_left, exists_eq_left', exists_const, nw_ks, nw_f4, nw_fvs, nw_some, Nat.reduceAdd, nw_sz_I, nw_kd_I, nw_ln_I, nw_rf_I, nw_L_I, nw_I_I, nw_sz_L, nw_kd_L, nw_ln_L, nw_rf_L, nw_I_L, nw_L_L, nw_ob_I, nw_ob_L, nw_obr_I, nw_obr_L, nI_add, nw_b0, nw_b1, nw_b01, not_false_eq_true, not_true_eq_false, false_implies, true_implies, Classical.not_not, nw_i10, decide_eq_false_iff_not, decide_eq_true_eq, ne_eq, Option.toList_some, Option.toList_none, List.cons_append, List.nil_append, reduceIte, Nat.reduceEqDiff, Nat.reduceLT, Nat.reduceLeDiff, Nat.reduceSub, Nat.reduceMul, reduceCtorEq, ↓nwx_aaload, ↓nwx_aload_n, ↓nwx_getfield, ↓nwx_iconst, ↓nwx_ifCond, ↓nwx_if_icmp, ↓nwx_iload_n, ↓nwx_ireturn, dmNf_step_0, rmNf_step, nw_b_f]; try simp (disch := omega) only [nw_b0, nw_b1, nw_ilt, nw_ile, nw_ieq, nw_icl, nw_iin, nI_add, and_true, true_and, and_false, false_and, not_false_eq_true, not_true_eq_false, false_implies, true_implies, Classical.not_not, ne_eq, reduceIte, Nat.reduceEqDiff, Nat.reduceLT, Nat.reduceLeDiff, Nat.reduceAdd, Nat.reduceSub, Nat.reduceMul, nw_b_f])
    exact no (fun q => hx q.1.1)
  obtain ⟨s, hs, rfl⟩ := q_srv_ok (j_g3 hJ) hn4 hx
  have hcs : (nI s).toNatClampNeg = s := nI_clamp (by omega)
  obtain ⟨s1, s2, s3, s4⟩ := (j_sv hJ hs).2.2.2.2.1
  rw [hcs] at hp no ⊢
  rw [hx, Bool.true_and]
  rcases s3 with s3 | ⟨g, hg6, s3⟩
  · rw [decide_eq_false (fun q => q s3)]
    (apply V_s1 [23] 12; simp only [nwx_0, nwx_S, nw_s1, nw_pII, nw_pA, nw_tIs, nw_vis, nw_jpx, Option.isSome_some, Option.getD_some, nw_popn, nw_rok, nw_wok, nw_isR, nw_cd, nw_at, nw_put, nw_nl0, nw_nlS, nw_no2s, nw_ft, nw_l01, nw_ak, nw_tsw, nw_flat, Value.category, List.mem_cons, List.not_mem_nil, List.length_cons, List.length_nil, or_false, false_or, or_true, true_or, and_true, true_and, and_false, false_and, if_true, if_false, Option.some.injEq, Prod.mk.injEq, and_assoc, exists_and_left, exists_eq_left, exists_eq_left', exists_const, nw_ks, nw_f4, nw_fvs, nw_some, Nat.reduceAdd, nw_sz_I, nw_kd_I, nw_ln_I, nw_rf_I, nw_L_I, nw_I_I, nw_sz_L, nw_kd_L, nw_ln_L, nw_rf_L, nw_I_L, nw_L_L, nw_ob_I, nw_ob_L, nw_obr_I, nw_obr_L, nI_add, nw_b0, nw_b1, nw_b01, not_false_eq_true, not_true_eq_false, false_implies, true_implies, Classical.not_not, nw_i10, decide_eq_false_iff_not, decide_eq_true_eq, ne_eq, Option.toList_some, Option.toList_none, List.cons_append, List.nil_append, reduceIte, Nat.reduceEqDiff, Nat.reduceLT, Nat.reduceLeDiff, Nat.reduceSub, Nat.reduceMul, reduceCtorEq, ↓nwx_aaload, ↓nwx_aload_n, ↓nwx_getfield, ↓nwx_iconst, ↓nwx_ifCond, ↓nwx_if_icmp, ↓nwx_iload_n, ↓nwx_ireturn, dmNf_step_0, rmNf_step, nw_b_f]; try simp (disch := omega) only [nw_b0, nw_b1, nw_ilt, nw_ile, nw_ieq, nw_icl, nw_iin, nI_add, and_true, true_and, and_false, false_and, not_false_eq_true, not_true_eq_false, false_implies, true_implies, Classical.not_not, ne_eq, reduceIte, Nat.reduceEqDiff, Nat.reduceLT, Nat.reduceLeDiff, Nat.reduceAdd, Nat.reduceSub, Nat.reduceMul, nw_b_f])
    exact no (fun q => by
      rcases s4 with s4 | s4
      · exact q.1.2 s4
      · exact s4.1 s3)
  rw [decide_eq_true (show ¬ S.1 26 s = -1 by rw [s3, nI_m1 (by omega)]; exact not_false)]
  have hsv := nw_cs hO hs
  have hv := nw_Ok_sv hO hs
  unfold nw_Sv at hv
  have e10 : nw_I w' (nw_S n s 0) 10 = nI g := (show nw_I w' (nw_S n s 0) 10 = _ from s1).trans s3
  rcases s4 with s4 | ⟨-, k, k1, kB, s4⟩
  · have e11 : nw_I w' (nw_S n s 0) 11 = -1 := (show nw_I w' (nw_S n s 0) 11 = _ from s2).trans s4
    (apply V_s1 [23] 12; simp only [nwx_0, nwx_S, nw_s1, nw_pII, nw_pA, nw_tIs, nw_vis, nw_jpx, Option.isSome_some, Option.getD_some, nw_popn, nw_rok, nw_wok, nw_isR, nw_cd, nw_at, nw_put, nw_nl0, nw_nlS, nw_no2s, nw_ft, nw_l01, nw_ak, nw_tsw, nw_flat, Value.category, List.mem_cons, List.not_mem_nil, List.length_cons, List.length_nil, or_false, false_or, or_true, true_or, and_true, true_and, and_false, false_and, if_true, if_false, Option.some.injEq, Prod.mk.injEq, and_assoc, exists_and_left, exists_eq_left, exists_eq_left', exists_const, nw_ks, nw_f4, nw_fvs, nw_some, Nat.reduceAdd, nw_sz_I, nw_kd_I, nw_ln_I, nw_rf_I, nw_L_I, nw_I_I, nw_sz_L, nw_kd_L, nw_ln_L, nw_rf_L, nw_I_L, nw_L_L, nw_ob_I, nw_ob_L, nw_obr_I, nw_obr_L, nI_add, nw_b0, nw_b1, nw_b01, not_false_eq_true, not_true_eq_false, false_implies, true_implies, Classical.not_not, nw_i10, decide_eq_false_iff_not, decide_eq_true_eq, ne_eq, Option.toList_some, Option.toList_none, List.cons_append, List.nil_append, reduceIte, Nat.reduceEqDiff, Nat.reduceLT, Nat.reduceLeDiff, Nat.reduceSub, Nat.reduceMul, reduceCtorEq, ↓nwx_aaload, ↓nwx_aload_n, ↓nwx_getfield, ↓nwx_iconst, ↓nwx_ifCond, ↓nwx_if_icmp, ↓nwx_iload_n, ↓nwx_ireturn, dmNf_step_0, rmNf_step, nw_b_t, hc, hsv, hv, hcs, e11]; try simp (disch := omega) only [nw_b0, nw_b1, nw_ilt, nw_ile, nw_ieq, nw_icl, nw_iin, nI_add, and_true, true_and, and_false, false_and, not_false_eq_true, not_true_eq_false, false_implies, true_implies, Classical.not_not, ne_eq, reduceIte, Nat.reduceEqDiff, Nat.reduceLT, Nat.reduceLeDiff, Nat.reduceAdd, Nat.reduceSub, Nat.reduceMul, nw_b_t, hc, hsv, hv, hcs, e11])
    exact ⟨hs, no (fun q => q.1.2 s4)⟩
  have e11 : nw_I w' (nw_S n s 0) 11 = nI k := (show nw_I w' (nw_S n s 0) 11 = _ from s2).trans s4
  have fin : ∀ X v, X = (if up = true then nw_nx (nw_I w' (nw_S n s (10 + g))) (nI k) 40 else nw_pv (nw_I w' (nw_S n s (10 + g))) (nI k) 40) → V mNf_step 61 [.ref 1, .int (nI s), v, .ref (nw_S n s 0), nw_u] [.int X] w' 0 0 (nw_rj n B w' p) := fun X v hX => by
    (apply V_s1 [] 6; simp only [nwx_0, nwx_S, nw_s1, nw_pII, nw_pA, nw_tIs, nw_vis, nw_jpx, Option.isSome_some, Option.getD_some, nw_popn, nw_rok, nw_wok, nw_isR, nw_cd, nw_at, nw_put, nw_nl0, nw_nlS, nw_no2s, nw_ft, nw_l01, nw_ak, nw_tsw, nw_flat, Value.category, List.mem_cons, List.not_mem_nil, List.length_cons, List.length_nil, or_false, false_or, or_true, true_or, and_true, true_and, and_false, false_and, if_true, if_false, Option.some.injEq, Prod.mk.injEq, and_assoc, exists_and_left, exists_eq_left, exists_eq_left', exists_const, nw_ks, nw_f4, nw_fvs, nw_some, Nat.reduceAdd, nw_sz_I, nw_kd_I, nw_ln_I, nw_rf_I, nw_L_I, nw_I_I, nw_sz_L, nw_kd_L, nw_ln_L, nw_rf_L, nw_I_L, nw_L_L, nw_ob_I, nw_ob_L, nw_obr_I, nw_obr_L, nI_add, nw_b0, nw_b1, nw_b01, not_false_eq_true, not_true_eq_false, false_implies, true_implies, Classical.not_not, nw_i10, decide_eq_false_iff_not, decide_eq_true_eq, ne_eq, Option.toList_some, Option.toList_none, List.cons_append, List.nil_append, reduceIte, Nat.reduceEqDiff, Nat.reduceLT, Nat.reduceLeDiff, Nat.reduceSub, Nat.reduceMul, reduceCtorEq, ↓nwx_aload_n, ↓nwx_iload, ↓nwx_invokestatic, ↓nwx_istore, dmNf_step_0, rmNf_step]; try simp (disch := omega) only [nw_b0, nw_b1, nw_ilt, nw_ile, nw_ieq, nw_icl, nw_iin, nI_add, and_true, true_and, and_false, false_and, not_false_eq_true, not_true_eq_false, false_implies, true_implies, Classical.not_not, ne_eq, reduceIte, Nat.reduceEqDiff, Nat.reduceLT, Nat.reduceLeDiff, Nat.reduceAdd, Nat.reduceSub, Nat.reduceMul])
    refine nw_do0 (c_Nf_goTo X hs hg6 e10 hO) ?_
    rintro r w2 ⟨rfl, hw2⟩
    (apply V_s1 [] 3; simp only [nwx_0, nwx_S, nw_s1, nw_pII, nw_pA, nw_tIs, nw_vis, nw_jpx, Option.isSome_some, Option.getD_some, nw_popn, nw_rok, nw_wok, nw_isR, nw_cd, nw_at, nw_put, nw_nl0, nw_nlS, nw_no2s, nw_ft, nw_l01, nw_ak, nw_tsw, nw_flat, Value.category, List.mem_cons, List.not_mem_nil, List.length_cons, List.length_nil, or_false, false_or, or_true, true_or, and_true, true_and, and_false, false_and, if_true, if_false, Option.some.injEq, Prod.mk.injEq, and_assoc, exists_and_left, exists_eq_left, exists_eq_left', exists_const, nw_ks, nw_f4, nw_fvs, nw_some, Nat.reduceAdd, nw_sz_I, nw_kd_I, nw_ln_I, nw_rf_I, nw_L_I, nw_I_I, nw_sz_L, nw_kd_L, nw_ln_L, nw_rf_L, nw_I_L, nw_L_L, nw_ob_I, nw_ob_L, nw_obr_I, nw_obr_L, nI_add, nw_b0, nw_b1, nw_b01, not_false_eq_true, not_true_eq_false, false_implies, true_implies, Classical.not_not, nw_i10, decide_eq_false_iff_not, decide_eq_true_eq, ne_eq, Option.toList_some, Option.toList_none, List.cons_append, List.nil_append, reduceIte, Nat.reduceEqDiff, Nat.reduceLT, Nat.reduceLeDiff, Nat.reduceSub, Nat.reduceMul, reduceCtorEq, ↓nwx_ireturn, dmNf_step_0, rmNf_step]; try simp (disch := omega) only [nw_b0, nw_b1, nw_ilt, nw_ile, nw_ieq, nw_icl, nw_iin, nI_add, and_true, true_and, and_false, false_and, not_false_eq_true, not_true_eq_false, false_implies, true_implies, Classical.not_not, ne_eq, reduceIte, Nat.reduceEqDiff, Nat.reduceLT, Nat.reduceLeDiff, Nat.reduceAdd, Nat.reduceSub, Nat.reduceMul])
    unfold q_stepN at hp
    rw [s3, s4, nI_clamp (by omega), hx] at hp
    rcases j_step hJ hB hs hg6 k1 kB up hX with ⟨a1, a2⟩ | ⟨j, m, j1, j2, a1, a2, a3, a4, a5, a6⟩
    · rw [a1, if_neg (fun q => q.2 rfl)] at hp
      rw [a2, if_pos rfl] at hw2
      rw [hw2, hp, a2]
      exact nw_rj_q hJ
    · rw [a1, if_pos ⟨⟨rfl, by rw [nI_m1 (by omega)]; exact not_false⟩, by omega⟩, a2] at hp
      rw [a6, if_neg (by rw [nI_m1 (by omega)]; exact not_false), a5] at hw2
      rw [hw2, hp, a6]
      exact ⟨rfl, nw_J_cur hJ hs hg6 s3 a3 a4⟩
  cases up
  · (apply V_s1 [61] 31; simp only [nwx_0, nwx_S, nw_s1, nw_pII, nw_pA, nw_tIs, nw_vis, nw_jpx, Option.isSome_some, Option.getD_some, nw_popn, nw_rok, nw_wok, nw_isR, nw_cd, nw_at, nw_put, nw_nl0, nw_nlS, nw_no2s, nw_ft, nw_l01, nw_ak, nw_tsw, nw_flat, Value.category, List.mem_cons, List.not_mem_nil, List.length_cons, List.length_nil, or_false, false_or, or_true, true_or, and_true, true_and, and_false, false_and, if_true, if_false, Option.some.injEq, Prod.mk.injEq, and_assoc, exists_and_left, exists_eq_left, exists_eq_left', exists_const, nw_ks, nw_f4, nw_fvs, nw_some, Nat.reduceAdd, nw_sz_I, nw_kd_I, nw_ln_I, nw_rf_I, nw_L_I, nw_I_I, nw_sz_L, nw_kd_L, nw_ln_L, nw_rf_L, nw_I_L, nw_L_L, nw_ob_I, nw_ob_L, nw_obr_I, nw_obr_L, nI_add, nw_b0, nw_b1, nw_b01, not_false_eq_true, not_true_eq_false, false_implies, true_implies, Classical.not_not, nw_i10, decide_eq_false_iff_not, decide_eq_true_eq, ne_eq, Option.toList_some, Option.toList_none, List.cons_append, List.nil_append, reduceIte, Nat.reduceEqDiff, Nat.reduceLT, Nat.reduceLeDiff, Nat.reduceSub, Nat.reduceMul, reduceCtorEq, ↓nwx_aaload, ↓nwx_aload_n, ↓nwx_astore_n, ↓nwx_getfield, ↓nwx_iconst, ↓nwx_ifCond, ↓nwx_if_icmp, ↓nwx_iload_n, ↓nwx_invokevirtual, ↓nwx_ireturn, dmNf_step_0, rmNf_step, nw_b_t, nw_b_f, nw_b, hc, hsv, hv, hcs, e10, e11, nw_im1]; try simp (disch := omega) only [nw_b0, nw_b1, nw_ilt, nw_ile, nw_ieq, nw_icl, nw_iin, nI_add, and_true, true_and, and_false, false_and, not_false_eq_true, not_true_eq_false, false_implies, true_implies, Classical.not_not, ne_eq, reduceIte, Nat.reduceEqDiff, Nat.reduceLT, Nat.reduceLeDiff, Nat.reduceAdd, Nat.reduceSub, Nat.reduceMul, nw_b_t, nw_b_f, nw_b, hc, hsv, hv, hcs, e10, e11, nw_im1])
    refine ⟨hs, hs, nw_do0 (c_Se_previousNumber _ hg6 hO hs) ?_⟩
    rintro r w2 ⟨rfl, rfl⟩
    exact fin _ _ (if_neg Bool.false_ne_true).symm
  · (apply V_s1 [61] 31; simp only [nwx_0, nwx_S, nw_s1, nw_pII, nw_pA, nw_tIs, nw_vis, nw_jpx, Option.isSome_some, Option.getD_some, nw_popn, nw_rok, nw_wok, nw_isR, nw_cd, nw_at, nw_put, nw_nl0, nw_nlS, nw_no2s, nw_ft, nw_l01, nw_ak, nw_tsw, nw_flat, Value.category, List.mem_cons, List.not_mem_nil, List.length_cons, List.length_nil, or_false, false_or, or_true, true_or, and_true, true_and, and_false, false_and, if_true, if_false, Option.some.injEq, Prod.mk.injEq, and_assoc, exists_and_left, exists_eq_left, exists_eq_left', exists_const, nw_ks, nw_f4, nw_fvs, nw_some, Nat.reduceAdd, nw_sz_I, nw_kd_I, nw_ln_I, nw_rf_I, nw_L_I, nw_I_I, nw_sz_L, nw_kd_L, nw_ln_L, nw_rf_L, nw_I_L, nw_L_L, nw_ob_I, nw_ob_L, nw_obr_I, nw_obr_L, nI_add, nw_b0, nw_b1, nw_b01, not_false_eq_true, not_true_eq_false, false_implies, true_implies, Classical.not_not, nw_i10, decide_eq_false_iff_not, decide_eq_true_eq, ne_eq, Option.toList_some, Option.toList_none, List.cons_append, List.nil_append, reduceIte, Nat.reduceEqDiff, Nat.reduceLT, Nat.reduceLeDiff, Nat.reduceSub, Nat.reduceMul, reduceCtorEq, ↓nwx_aaload, ↓nwx_aload_n, ↓nwx_astore_n, ↓nwx_getfield, ↓nwx_iconst, ↓nwx_ifCond, ↓nwx_if_icmp, ↓nwx_iload_n, ↓nwx_invokevirtual, ↓nwx_ireturn, dmNf_step_0, rmNf_step, nw_b_t, nw_b_f, nw_b, hc, hsv, hv, hcs, e10, e11, nw_im1]; try simp (disch := omega) only [nw_b0, nw_b1, nw_ilt, nw_ile, nw_ieq, nw_icl, nw_iin, nI_add, and_true, true_and, and_false, false_and, not_false_eq_true, not_true_eq_false, false_implies, true_implies, Classical.not_not, ne_eq, reduceIte, Nat.reduceEqDiff, Nat.reduceLT, Nat.reduceLeDiff, Nat.reduceAdd, Nat.reduceSub, Nat.reduceMul, nw_b_t, nw_b_f, nw_b, hc, hsv, hv, hcs, e10, e11, nw_im1])
    refine ⟨hs, hs, nw_do0 (c_Se_nextNumber _ hg6 hO hs) ?_⟩
    rintro r w2 ⟨rfl, rfl⟩
    (apply V_s1 [61] 3; simp only [nwx_0, nwx_S, nw_s1, nw_pII, nw_pA, nw_tIs, nw_vis, nw_jpx, Option.isSome_some, Option.getD_some, nw_popn, nw_rok, nw_wok, nw_isR, nw_cd, nw_at, nw_put, nw_nl0, nw_nlS, nw_no2s, nw_ft, nw_l01, nw_ak, nw_tsw, nw_flat, Value.category, List.mem_cons, List.not_mem_nil, List.length_cons, List.length_nil, or_false, false_or, or_true, true_or, and_true, true_and, and_false, false_and, if_true, if_false, Option.some.injEq, Prod.mk.injEq, and_assoc, exists_and_left, exists_eq_left, exists_eq_left', exists_const, nw_ks, nw_f4, nw_fvs, nw_some, Nat.reduceAdd, nw_sz_I, nw_kd_I, nw_ln_I, nw_rf_I, nw_L_I, nw_I_I, nw_sz_L, nw_kd_L, nw_ln_L, nw_rf_L, nw_I_L, nw_L_L, nw_ob_I, nw_ob_L, nw_obr_I, nw_obr_L, nI_add, nw_b0, nw_b1, nw_b01, not_false_eq_true, not_true_eq_false, false_implies, true_implies, Classical.not_not, nw_i10, decide_eq_false_iff_not, decide_eq_true_eq, ne_eq, Option.toList_some, Option.toList_none, List.cons_append, List.nil_append, reduceIte, Nat.reduceEqDiff, Nat.reduceLT, Nat.reduceLeDiff, Nat.reduceSub, Nat.reduceMul, reduceCtorEq, ↓nwx_goto, dmNf_step_0, rmNf_step]; try simp (disch := omega) only [nw_b0, nw_b1, nw_ilt, nw_ile, nw_ieq, nw_icl, nw_iin, nI_add, and_true, true_and, and_false, false_and, not_false_eq_true, not_true_eq_false, false_implies, true_implies, Classical.not_not, ne_eq, reduceIte, Nat.reduceEqDiff, Nat.reduceLT, Nat.reduceLeDiff, Nat.reduceAdd, Nat.reduceSub, Nat.reduceMul])
    exact fin _ _ (if_pos rfl).symm
set_option maxRecDepth 20000 in
theorem p_Nf_stat (x y : Int32) (hJ : nw_J n w S B) (hB : B ≤ 99999) : V mNf_stat 0 (nw_ent mNf_stat [.ref 1, .int x, .int y]) [] w 0 0 (nw_rj n B w (q_stat S x y)) := by
  have hO := hJ.1
  have hn4 := hO.2.1
  have hc := nw_cf hO
  obtain ⟨p, hp⟩ : ∃ p, p = q_stat S x y := ⟨_, rfl⟩
  rw [← hp, emNf_stat]
  unfold q_stat at hp
  have no : ¬ (q_sok S x y ∧ ¬ q_stI S x.toNatClampNeg y = 0) → nw_rj n B w p (some (.int (-1))) w := fun h => by
    rw [if_neg h] at hp
    rw [hp]
    exact nw_rj_q hJ
  (apply V_s1 [] 5; simp only [nwx_0, nwx_S, nw_s1, nw_pII, nw_pA, nw_tIs, nw_vis, nw_jpx, Option.isSome_some, Option.getD_some, nw_popn, nw_rok, nw_wok, nw_isR, nw_cd, nw_at, nw_put, nw_nl0, nw_nlS, nw_no2s, nw_ft, nw_l01, nw_ak, nw_tsw, nw_flat, Value.category, List.mem_cons, List.not_mem_nil, List.length_cons, List.length_nil, or_false, false_or, or_true, true_or, and_true, true_and, and_false, false_and, if_true, if_false, Option.some.injEq, Prod.mk.injEq, and_assoc, exists_and_left, exists_eq_left, exists_eq_left', exists_const, nw_ks, nw_f4, nw_fvs, nw_some, Nat.reduceAdd, nw_sz_I, nw_kd_I, nw_ln_I, nw_rf_I, nw_L_I, nw_I_I, nw_sz_L, nw_kd_L, nw_ln_L, nw_rf_L, nw_I_L, nw_L_L, nw_ob_I, nw_ob_L, nw_obr_I, nw_obr_L, nI_add, nw_b0, nw_b1, nw_b01, not_false_eq_true, not_true_eq_false, false_implies, true_implies, Classical.not_not, nw_i10, decide_eq_false_iff_not, decide_eq_true_eq, ne_eq, Option.toList_some, Option.toList_none, List.cons_append, List.nil_append, reduceIte, Nat.reduceEqDiff, Nat.reduceLT, Nat.reduceLeDiff, Nat.reduceSub, Nat.reduceMul, reduceCtorEq, ↓nwx_aload_n, ↓nwx_iload_n, ↓nwx_invokevirtual, dmNf_stat_0, rmNf_stat, hc]; try simp (disch := omega) only [nw_b0, nw_b1, nw_ilt, nw_ile, nw_ieq, nw_icl, nw_iin, nI_add, and_true, true_and, and_false, false_and, not_false_eq_true, not_true_eq_false, false_implies, true_implies, Classical.not_not, ne_eq, reduceIte, Nat.reduceEqDiff, Nat.reduceLT, Nat.reduceLeDiff, Nat.reduceAdd, Nat.reduceSub, Nat.reduceMul, hc])
  refine nw_do0 (c_Nf_hasSelected x hO) ?_
  rintro r w' ⟨rfl, rfl⟩
  rw [k_sel_q hJ]
  by_cases hx : q_srv S x = true ∧ ¬ S.1 26 x.toNatClampNeg = -1
  case neg =>
    rw [show (q_srv S x && decide (¬ S.1 26 x.toNatClampNeg = -1)) = false from eq_false_of_ne_true (fun q => hx (by simpa using q))]
    (apply V_s1 [10] 5; simp only [nwx_0, nwx_S, nw_s1, nw_pII, nw_pA, nw_tIs, nw_vis, nw_jpx, Option.isSome_some, Option.getD_some, nw_popn, nw_rok, nw_wok, nw_isR, nw_cd, nw_at, nw_put, nw_nl0, nw_nlS, nw_no2s, nw_ft, nw_l01, nw_ak, nw_tsw, nw_flat, Value.category, List.mem_cons, List.not_mem_nil, List.length_cons, List.length_nil, or_false, false_or, or_true, true_or, and_true, true_and, and_false, false_and, if_true, if_false, Option.some.injEq, Prod.mk.injEq, and_assoc, exists_and_left, exists_eq_left, exists_eq_left', exists_const, nw_ks, nw_f4, nw_fvs, nw_some, Nat.reduceAdd, nw_sz_I, nw_kd_I, nw_ln_I, nw_rf_I, nw_L_I, nw_I_I, nw_sz_L, nw_kd_L, nw_ln_L, nw_rf_L, nw_I_L, nw_L_L, nw_ob_I, nw_ob_L, nw_obr_I, nw_obr_L, nI_add, nw_b0, nw_b1, nw_b01, not_false_eq_true, not_true_eq_false, false_implies, true_implies, Classical.not_not, nw_i10, decide_eq_false_iff_not, decide_eq_true_eq, ne_eq, Option.toList_some, Option.toList_none, List.cons_append, List.nil_append, reduceIte, Nat.reduceEqDiff, Nat.reduceLT, Nat.reduceLeDiff, Nat.reduceSub, Nat.reduceMul, reduceCtorEq, ↓nwx_iconst, ↓nwx_ifCond, ↓nwx_ireturn, dmNf_stat_0, rmNf_stat, nw_b_f]; try simp (disch := omega) only [nw_b0, nw_b1, nw_ilt, nw_ile, nw_ieq, nw_icl, nw_iin, nI_add, and_true, true_and, and_false, false_and, not_false_eq_true, not_true_eq_false, false_implies, true_implies, Classical.not_not, ne_eq, reduceIte, Nat.reduceEqDiff, Nat.reduceLT, Nat.reduceLeDiff, Nat.reduceAdd, Nat.reduceSub, Nat.reduceMul, nw_b_f])
    exact no (fun q => hx q.1.1.1)
  rw [hx.1, decide_eq_true hx.2]
  obtain ⟨s, hs, rfl⟩ := q_srv_ok (j_g3 hJ) hn4 hx.1
  have hcs : (nI s).toNatClampNeg = s := nI_clamp (by omega)
  obtain ⟨s1, s2, s3, s4⟩ := (j_sv hJ hs).2.2.2.2.1
  have hx2 := hx
  simp only [hcs] at hp no hx2
  rcases s3 with s3 | ⟨g, hg6, s3⟩
  · exact absurd s3 hx2.2
  have hsv := nw_cs hO hs
  have hv := nw_Ok_sv hO hs
  unfold nw_Sv at hv
  have e10 : nw_I w' (nw_S n s 0) 10 = nI g := (show nw_I w' (nw_S n s 0) 10 = _ from s1).trans s3
  have e11 : nw_I w' (nw_S n s 0) 11 = S.1 27 s := s2
  obtain ⟨N, h1, h2, h3⟩ := j_num hJ hs hg6
  have hN : ∀ i, 1 ≤ i → i ≤ 40 → N i ≤ 100000 := fun i a b => by have := h3 i a b; omega
  have fin : ∀ K, K = q_stK S s y → V mNf_stat 33 [.ref 1, .int (nI s), .int y] [.int K, .ref (nw_S n s 0)] w' 0 0 (nw_rj n B w' p) := fun K hK => by
    (apply V_s1 [] 3; simp only [nwx_0, nwx_S, nw_s1, nw_pII, nw_pA, nw_tIs, nw_vis, nw_jpx, Option.isSome_some, Option.getD_some, nw_popn, nw_rok, nw_wok, nw_isR, nw_cd, nw_at, nw_put, nw_nl0, nw_nlS, nw_no2s, nw_ft, nw_l01, nw_ak, nw_tsw, nw_flat, Value.category, List.mem_cons, List.not_mem_nil, List.length_cons, List.length_nil, or_false, false_or, or_true, true_or, and_true, true_and, and_false, false_and, if_true, if_false, Option.some.injEq, Prod.mk.injEq, and_assoc, exists_and_left, exists_eq_left, exists_eq_left', exists_const, nw_ks, nw_f4, nw_fvs, nw_some, Nat.reduceAdd, nw_sz_I, nw_kd_I, nw_ln_I, nw_rf_I, nw_L_I, nw_I_I, nw_sz_L, nw_kd_L, nw_ln_L, nw_rf_L, nw_I_L, nw_L_L, nw_ob_I, nw_ob_L, nw_obr_I, nw_obr_L, nI_add, nw_b0, nw_b1, nw_b01, not_false_eq_true, not_true_eq_false, false_implies, true_implies, Classical.not_not, nw_i10, decide_eq_false_iff_not, decide_eq_true_eq, ne_eq, Option.toList_some, Option.toList_none, List.cons_append, List.nil_append, reduceIte, Nat.reduceEqDiff, Nat.reduceLT, Nat.reduceLeDiff, Nat.reduceSub, Nat.reduceMul, reduceCtorEq, ↓nwx_invokestatic, dmNf_stat_0, rmNf_stat]; try simp (disch := omega) only [nw_b0, nw_b1, nw_ilt, nw_ile, nw_ieq, nw_icl, nw_iin, nI_add, and_true, true_and, and_false, false_and, not_false_eq_true, not_true_eq_false, false_implies, true_implies, Classical.not_not, ne_eq, reduceIte, Nat.reduceEqDiff, Nat.reduceLT, Nat.reduceLeDiff, Nat.reduceAdd, Nat.reduceSub, Nat.reduceMul])
    refine nw_do0 (c_Nf_goTo K hs hg6 e10 hO) ?_
    rintro r w2 ⟨rfl, hw2⟩
    (apply V_s1 [] 3; simp only [nwx_0, nwx_S, nw_s1, nw_pII, nw_pA, nw_tIs, nw_vis, nw_jpx, Option.isSome_some, Option.getD_some, nw_popn, nw_rok, nw_wok, nw_isR, nw_cd, nw_at, nw_put, nw_nl0, nw_nlS, nw_no2s, nw_ft, nw_l01, nw_ak, nw_tsw, nw_flat, Value.category, List.mem_cons, List.not_mem_nil, List.length_cons, List.length_nil, or_false, false_or, or_true, true_or, and_true, true_and, and_false, false_and, if_true, if_false, Option.some.injEq, Prod.mk.injEq, and_assoc, exists_and_left, exists_eq_left, exists_eq_left', exists_const, nw_ks, nw_f4, nw_fvs, nw_some, Nat.reduceAdd, nw_sz_I, nw_kd_I, nw_ln_I, nw_rf_I, nw_L_I, nw_I_I, nw_sz_L, nw_kd_L, nw_ln_L, nw_rf_L, nw_I_L, nw_L_L, nw_ob_I, nw_ob_L, nw_obr_I, nw_obr_L, nI_add, nw_b0, nw_b1, nw_b01, not_false_eq_true, not_true_eq_false, false_implies, true_implies, Classical.not_not, nw_i10, decide_eq_false_iff_not, decide_eq_true_eq, ne_eq, Option.toList_some, Option.toList_none, List.cons_append, List.nil_append, reduceIte, Nat.reduceEqDiff, Nat.reduceLT, Nat.reduceLeDiff, Nat.reduceSub, Nat.reduceMul, reduceCtorEq, ↓nwx_ireturn, dmNf_stat_0, rmNf_stat]; try simp (disch := omega) only [nw_b0, nw_b1, nw_ilt, nw_ile, nw_ieq, nw_icl, nw_iin, nI_add, and_true, true_and, and_false, false_and, not_false_eq_true, not_true_eq_false, false_implies, true_implies, Classical.not_not, ne_eq, reduceIte, Nat.reduceEqDiff, Nat.reduceLT, Nat.reduceLeDiff, Nat.reduceAdd, Nat.reduceSub, Nat.reduceMul])
    unfold q_sok q_stI at hp no
    rw [hcs, s3, nI_clamp (by omega), ← hK] at hp no
    have e1 : nw_at1 (fun i => q_num S s i g) K 40 = nw_at1 (nw_I w' (nw_S n s (10 + g))) K 40 := nw_at1_eq 40 (fun i a b => (h1 i a b).trans (h2 i a b).symm)
    rw [e1] at hp no
    by_cases h0 : nw_at1 (nw_I w' (nw_S n s (10 + g))) K 40 = 0
    · have e2 : nw_idn (nw_I w' (nw_S n s (10 + g))) K 40 = -1 := if_pos (Or.inr h0)
      rw [e2, if_pos rfl] at hw2
      rw [hw2, e2]
      exact no (fun q => q.2 h0)
    · obtain ⟨i, i1, i2, i3⟩ := nw_at1_in 40 h0
      have hNi := hN i i1 i2
      rw [h2 i i1 i2] at i3
      have hK0 : ¬ K = nI 0 := fun q => by
        by_cases hy : y = nI 0
        · have : K = S.1 27 s := by rw [hK]; unfold q_stK; rw [if_pos hy]
          rcases s4 with s4 | ⟨-, k, k1, kB, s4⟩
          · rw [s4, ← i3, nI_m1 (by omega)] at this
            exact this
          · rw [s4, q, nI_inj (by omega) (by omega)] at this
            omega
        · have : K = y := by rw [hK]; unfold q_stK; rw [if_neg hy]
          exact hy (this.symm.trans q)
      have hN1 : 1 ≤ N i := by
        rw [← i3, nI_inj (by omega) (by omega)] at hK0
        omega
      have e2 : nw_idn (nw_I w' (nw_S n s (10 + g))) K 40 = nI (nw_at1 (nw_I w' (nw_S n s (10 + g))) K 40) := if_neg (fun q => q.elim hK0 h0)
      have hle := nw_at1_le (nw_I w' (nw_S n s (10 + g))) K 40
      rw [e2, if_neg (by rw [nI_m1 (by omega)]; exact not_false)] at hw2
      have hy0 : nI 0 ≤ y := by
        by_cases hy : y = nI 0
        · rw [hy]; exact Int32.le_refl _
        · have : K = y := by rw [hK]; unfold q_stK; rw [if_neg hy]
          rw [← this, ← i3, nI_le' (by omega) (by omega)]
          omega
      have hq0 : ¬ (y = nI 0 ∧ S.1 27 s = -1) := fun q => by
        have : K = S.1 27 s := by rw [hK]; unfold q_stK; rw [if_pos q.1]
        rw [q.2, ← i3, nI_m1 (by omega)] at this
        exact this
      rw [if_pos ⟨⟨⟨⟨hx.1, by rw [nI_m1 (by omega)]; exact not_false⟩, hy0⟩, hq0⟩, h0⟩] at hp
      rw [hw2, hp, e2, ← i3]
      exact ⟨rfl, nw_J_cur hJ hs hg6 s3 hN1 (h3 i i1 i2)⟩
  (apply V_s1 [33] 18; simp only [nwx_0, nwx_S, nw_s1, nw_pII, nw_pA, nw_tIs, nw_vis, nw_jpx, Option.isSome_some, Option.getD_some, nw_popn, nw_rok, nw_wok, nw_isR, nw_cd, nw_at, nw_put, nw_nl0, nw_nlS, nw_no2s, nw_ft, nw_l01, nw_ak, nw_tsw, nw_flat, Value.category, List.mem_cons, List.not_mem_nil, List.length_cons, List.length_nil, or_false, false_or, or_true, true_or, and_true, true_and, and_false, false_and, if_true, if_false, Option.some.injEq, Prod.mk.injEq, and_assoc, exists_and_left, exists_eq_left, exists_eq_left', exists_const, nw_ks, nw_f4, nw_fvs, nw_some, Nat.reduceAdd, nw_sz_I, nw_kd_I, nw_ln_I, nw_rf_I, nw_L_I, nw_I_I, nw_sz_L, nw_kd_L, nw_ln_L, nw_rf_L, nw_I_L, nw_L_L, nw_ob_I, nw_ob_L, nw_obr_I, nw_obr_L, nI_add, nw_b0, nw_b1, nw_b01, not_false_eq_true, not_true_eq_false, false_implies, true_implies, Classical.not_not, nw_i10, decide_eq_false_iff_not, decide_eq_true_eq, ne_eq, Option.toList_some, Option.toList_none, List.cons_append, List.nil_append, reduceIte, Nat.reduceEqDiff, Nat.reduceLT, Nat.reduceLeDiff, Nat.reduceSub, Nat.reduceMul, reduceCtorEq, ↓nwx_aaload, ↓nwx_aload_n, ↓nwx_getfield, ↓nwx_goto, ↓nwx_iconst, ↓nwx_ifCond, ↓nwx_iload_n, ↓nwx_ireturn, dmNf_stat_0, rmNf_stat, Bool.and_true, nw_b_t, hc, hsv, hv, hcs, e11]; try simp (disch := omega) only [nw_b0, nw_b1, nw_ilt, nw_ile, nw_ieq, nw_icl, nw_iin, nI_add, and_true, true_and, and_false, false_and, not_false_eq_true, not_true_eq_false, false_implies, true_implies, Classical.not_not, ne_eq, reduceIte, Nat.reduceEqDiff, Nat.reduceLT, Nat.reduceLeDiff, Nat.reduceAdd, Nat.reduceSub, Nat.reduceMul, Bool.and_true, nw_b_t, hc, hsv, hv, hcs, e11])
  refine ⟨hs, fun h => fin y ?_, fun h => ⟨hs, fin (S.1 27 s) ?_⟩⟩
  · unfold q_stK
    rw [if_neg h]
  · unfold q_stK
    rw [if_pos h]
end NU
