/-! NewsFlood: receive -/
section ND
variable {n B : Nat} {w : nw_W} {S : nw_Q}
theorem j_no {s i : Nat} {w1 : nw_W} (hJ : nw_J n w S B) (hs : s < n) (i1 : 1 ≤ i) (i2 : i ≤ 40) (h21 : S.1 21 s = nI i) (hw1 : w1 = nw_setI w (nw_S n s 6) (upd (nw_I w (nw_S n s 6)) 1 (nI 0))) {sd : Int32} : ∀ w4, k_f4 n s i sd (k_f3 n s i w1) w4 → ∀ t, t < n → ∃ q, q < 24 ∧ nw_I w4 (nw_S n s (20 + 2 * t)) 1 = nI q ∧ nI i ∉ nw_pre (nw_I w4 (nw_S n s (21 + 2 * t))) q := by
  have hn4 := hJ.1.2.1
  obtain ⟨p1, p2, p3, p4, p5, p6, p7, p8⟩ := j_sv hJ hs
  obtain ⟨h12, hE⟩ : S.1 12 (41 * s + i) = nI 0 ∧ q_ents S s < 24 := by
    rcases p4.2 with ⟨a1, -⟩ | ⟨j, j1, j2, a1, a2, a3, a4, a5, a6, a7, -⟩
    · rw [a1, nI_inj (by omega) (by omega)] at h21
      omega
    · rw [a1, nI_inj (by omega) (by omega)] at h21
      subst h21
      exact ⟨a6, a7⟩
  obtain ⟨-, -, k20⟩ := nw_J_fA hJ hs i1 i2 h21 hw1 rfl
  have base : ∀ t, t < n → ∃ q, q < 24 ∧ nw_I w (nw_S n s (20 + 2 * t)) 1 = nI q ∧ nI i ∉ nw_pre (nw_I w (nw_S n s (21 + 2 * t))) q := fun t ht => by
    obtain ⟨q, q1, q2, q3, q4, q5, q6⟩ := p8 t ht
    have q5 : (nw_pre (nw_I w (nw_S n s (21 + 2 * t))) q).Nodup := q5
    have q6 : ∀ x ∈ nw_pre (nw_I w (nw_S n s (21 + 2 * t))) q, _ := q6
    refine ⟨q, ?_, q2, fun hm => ?_⟩
    · have := nw_nodup_le _ (fun j => decide (nI 0 < S.1 12 (41 * s + j))) q5 (fun x hx => by
        obtain ⟨j, j1, j2, j3, j4⟩ := q6 x hx
        exact ⟨j, j1, j2, j3, decide_eq_true (by rw [j4]; decide)⟩)
      rw [nw_pre_len] at this
      unfold q_ents at hE
      omega
    · obtain ⟨j, j1, j2, j3, j4⟩ := q6 _ hm
      rw [nI_inj (by omega) (by omega)] at j3
      subst j3
      rw [h12] at j4
      exact absurd j4 (by decide)
  intro w4 h4 t ht
  obtain ⟨q, q1, q2, q3⟩ := base t ht
  rcases h4 with ⟨-, rfl⟩ | ⟨t0, q0, ht0, -, hq0, hq1, -, f, c, rfl, hf⟩
  · rw [k20 _ (by omega), k20 _ (by omega)]
    exact ⟨q, q1, q2, q3⟩
  · by_cases hh : t0 = s ∧ t = s
    · obtain ⟨rfl, rfl⟩ := hh
      rw [k20 _ (by omega), q2, nI_inj (by omega) (by omega)] at hq1
      subst hq1
      rw [k20 _ (by omega)] at hf
      have hl := congrArg List.length hf
      have hl2 := nw_out_len (nI i) (nw_pre (nw_I w (nw_S n t (21 + 2 * t))) q)
      rw [nw_pre_len] at hl hl2
      rw [nw_S_Ieq, pk_us, nw_S_Ine (by omega), nw_S_Ieq]
      refine ⟨c, by omega, rfl, fun hm => ?_⟩
      rw [hf, nw_out_mem] at hm
      exact hm.2 rfl
    · have hkeep : ∀ k, k = 20 + 2 * t ∨ k = 21 + 2 * t → nw_I (nw_setI (nw_setI (k_f3 n s i w1) (nw_S n t0 (21 + 2 * s)) f) (nw_S n t0 (20 + 2 * s)) (upd (nw_I (k_f3 n s i w1) (nw_S n t0 (20 + 2 * s))) 1 (nI c))) (nw_S n s k) = nw_I w (nw_S n s k) := fun k hk => by
        rw [nw_I_I, va_up_ne _ _ (by rw [Ne, nw_Sst (by omega) (by omega)]; omega), nw_I_I, va_up_ne _ _ (by rw [Ne, nw_Sst (by omega) (by omega)]; omega), k20 _ (by omega)]
      rw [hkeep _ (Or.inl rfl), hkeep _ (Or.inr rfl)]
      exact ⟨q, q1, q2, q3⟩
theorem nw_J_file {s i G c : Nat} {w1 w' : nw_W} {S1 : nw_Q} (hJ : nw_J n w S B) (hs : s < n) (i1 : 1 ≤ i) (i2 : i ≤ 40) (h21 : S.1 21 s = nI i) (hw1 : w1 = nw_setI w (nw_S n s 6) (upd (nw_I w (nw_S n s 6)) 1 (nI 0))) (hS1 : S1 = q_i S 22 s (nI 0)) (hG : G ≤ 6) (hg3 : S.1 3 3 = nI G) (hc40 : c ≤ 40) (h8 : S.1 8 i = nI c) (hw : k_fil n s i G c (S.1 25 s) w1 none w') : nw_J n w' (q_file S1 s i) (B + 1) ∧ nw_fm n w w' := by
  have hn4 := hJ.1.2.1
  have hn3 := j_g3 hJ
  obtain ⟨-, w4, h4, hz, hnz⟩ := hw
  obtain ⟨⟨J3, F3⟩, -, -⟩ := nw_J_fA hJ hs i1 i2 h21 hw1 hS1
  have eN : ∀ f, f ≠ 11 → f ≠ 17 → (q_numF (q_file1 S1 s i) s i 6).1 f = (q_file1 S1 s i).1 f := fun f a b => q_numF_1 _ s i a b 6
  have e25 : S1.1 25 = S.1 25 := by rw [hS1]; rfl
  have eS1 : ∀ f, f ≠ 22 → S1.1 f = S.1 f := fun f hf => by rw [hS1, q_i_1, if_neg hf]
  have ef1 : ∀ f, f < 12 ∨ 21 < f → (q_file1 S1 s i).1 f = S1.1 f := fun f hf => by
    unfold q_file1
    rw [q_i_1, if_neg (by omega), q_i_1, if_neg (by omega), q_i_1, if_neg (by omega), q_i_1, if_neg (by omega), q_i_1, if_neg (by omega), q_i_1, if_neg (by omega)]
  -- out of the sender's line
  obtain ⟨J4, F4⟩ : nw_J n w4 (q_file2 S1 s i) (B + 1) ∧ nw_fm n w w4 := by
    unfold q_file2
    rw [e25]
    rcases h4 with ⟨hm, rfl⟩ | ⟨t, q, ht, hm, hq, hq1, hr⟩
    · rw [hm, if_neg (by decide)]
      exact ⟨J3, F3⟩
    · rw [hm, if_pos (by rw [nI_le' (by omega) (by omega)]; omega), nI_clamp (by omega)]
      obtain ⟨g1, g2⟩ := nw_J_lv J3 ht hs hq hq1 hr
      exact ⟨g1, nw_fm_t F3 g2⟩
  have e2 : ∀ f, f < 11 → (q_file2 S1 s i).1 f = S.1 f := fun f hf => by rw [q_file2_1 (by omega) (by omega) (by omega) (by omega), ef1 f (by omega), eS1 f (by omega)]
  have h12 : (q_file2 S1 s i).1 12 (41 * s + i) = nI 1 := by
    rw [q_file2_1 (by omega) (by omega) (by omega) (by omega)]
    exact pk_us
  have h21' : (q_file2 S1 s i).1 21 s = nI 0 := by
    rw [q_file2_1 (by omega) (by omega) (by omega) (by omega)]
    exact pk_us
  -- into the lines
  obtain ⟨J5, F5⟩ := nw_J_feed J4 hs i1 i2 h12 hG (by rw [e2 3 (by omega)]; exact hg3) (j_no hJ hs i1 i2 h21 hw1 w4 h4)
  have e3 : q_file3 S1 s i = q_feedF (q_file2 S1 s i) s i n := by
    unfold q_file3
    rw [eS1 3 (by omega), hn3, nI_clamp (by omega)]
  have e8 : S1.1 8 i = nI c := by rw [eS1 8 (by omega)]; exact h8
  unfold q_file
  rw [e8, e3]
  by_cases hc0 : c = 0
  · rw [if_neg (by rw [hc0]; decide), hz hc0]
    exact ⟨J5, nw_fm_t F4 F5⟩
  · rw [if_pos (by rw [nI_lt' (by omega) (by omega)]; omega), nI_clamp (by omega)]
    obtain ⟨g1, g2⟩ := nw_J_cancel J5 hs (i := c) (by omega) hc40 (by rw [q_feedF_1 _ s i (by decide) (by decide)]; exact h21') (hnz hc0)
    exact ⟨g1, nw_fm_t F4 (nw_fm_t F5 g2)⟩
theorem q_cancel_22 (S : nw_Q) (s i : Nat) : (q_cancel S s i).1 22 = S.1 22 := by
  unfold q_cancel
  split
  · rfl
  · split
    · rw [q_i_1, if_neg (by decide), q_remove_1 (by decide) (by decide) (by decide)]
    · split
      · rfl
      · rfl
theorem q_file_22 (S : nw_Q) (s i : Nat) : (q_file S s i).1 22 = S.1 22 := by
  have e : (q_file3 S s i).1 22 = S.1 22 := by
    unfold q_file3
    rw [q_feedF_1 _ s i (by decide) (by decide), q_file2_1 (by omega) (by omega) (by omega) (by omega)]
    rfl
  unfold q_file
  split
  · rw [q_cancel_22, e]
  · exact e
/-- some blocks are still missing -/
theorem nw_J_miss {s i m : Nat} (hJ : nw_J n w S B) (hs : s < n) (i1 : 1 ≤ i) (i2 : i ≤ 40) (h21 : S.1 21 s = nI i) (m1 : 1 ≤ m) (m8 : m ≤ 8) : nw_J n (nw_setI w (nw_S n s 6) (upd (nw_I w (nw_S n s 6)) 1 (nI m))) (q_i S 22 s (nI m)) B ∧ nw_fm n w (nw_setI w (nw_S n s 6) (upd (nw_I w (nw_S n s 6)) 1 (nI m))) := by
  have hn4 := hJ.1.2.1
  obtain ⟨p1, p2, p3, p4, p5, p6, p7, p8⟩ := j_sv hJ hs
  obtain ⟨w', hw'⟩ : ∃ w', w' = nw_setI w (nw_S n s 6) (upd (nw_I w (nw_S n s 6)) 1 (nI m)) := ⟨_, rfl⟩
  obtain ⟨S', hS'⟩ : ∃ S', S' = q_i S 22 s (nI m) := ⟨_, rfl⟩
  rw [← hw', ← hS']
  have hI : ∀ k, k ≠ 6 → nw_c n w' s k = nw_c n w s k := fun k k6 => by
    show nw_I w' (nw_S n s k) = _
    rw [hw', nw_S_Ine k6]
    rfl
  have hI6 : nw_c n w' s 6 = upd (nw_c n w s 6) 1 (nI m) := by
    show nw_I w' (nw_S n s 6) = _
    rw [hw', nw_S_Ieq]
    rfl
  have e : ∀ f, f ≠ 22 → S'.1 f = S.1 f := fun f hf => by rw [hS', q_i_1, if_neg hf]
  have e22 : S'.1 22 s = nI m := by rw [hS']; exact pk_us
  have hqc : q_chg s S S' := by rw [hS']; exact q_chg_i (q_chg_r s S) (by omega)
  have kp := q_chg_kp hqc
  have s12 := e 12 (by decide)
  refine nw_J_q hJ hs (Nat.le_refl _) (by rw [hw']; exact nw_chg_I (nw_chg_r n s w) (by omega) _) (by rw [hS']; exact j_ref_i hJ.2.1 (Or.inl (by decide))) hqc ?_
  refine ⟨j_ent_c p1 ⟨hI 4 (by omega), hI 5 (by omega), hI 16 (by omega), hI 17 (by omega)⟩ (fun i _ _ => ⟨by rw [s12], by rw [e 13 (by decide)], by rw [e 14 (by decide)], by rw [e 16 (by decide)]⟩) kp, j_grp_c p2 ⟨hI 7 (by omega), hI 8 (by omega), fun g hg => hI (10 + g) (by omega)⟩ (Nat.le_refl _) (fun g hg => ⟨by rw [e 10 (by decide)], by rw [e 11 (by decide)]⟩) (fun i g _ _ _ => by rw [e 17 (by decide)]) (fun i _ _ => Or.inr (Or.inr (by rw [s12]))) (fun i _ _ q => by rw [s12]; exact q), j_cnt_c p3 (hI 3 (by omega)) (fun i _ _ => by rw [s12]), ?_, j_sel_c p5 (hI 0 (by omega)) (Nat.le_refl _) ⟨by rw [e 26 (by decide)], by rw [e 27 (by decide)]⟩, j_own_c p6 (hI 2 (by omega)) ⟨by rw [e 21 (by decide)], by rw [e 23 (by decide)]⟩ (fun i _ _ => ⟨by rw [s12], by rw [e 15 (by decide)]⟩) (fun i _ _ _ => by rw [e 7 (by decide)]), j_pat_c p7 (by rw [hw']; rfl) (fun t _ => by rw [hqc.1]), j_bl_c p8 (fun t ht => ⟨hI _ (by omega), hI _ (by omega)⟩) (fun t _ => by rw [e 20 (by decide)]) (fun t k _ _ => by rw [e 19 (by decide)]) (fun i _ _ q => by rw [s12]; exact q)⟩
  unfold j_int
  rw [hI6, e22, e 21 (by decide), e 24 (by decide), e 25 (by decide), pk_us, pk_un (by decide), pk_un (by decide), pk_un (by decide), q_ents_c (S := S) (S' := S') (fun i _ _ => by rw [s12])]
  refine ⟨p4.1, ?_⟩
  rcases p4.2 with ⟨a1, -⟩ | ⟨j, j1, j2, a1, a2, a3, a4, a5, a6, a7, a8, a9⟩
  · rw [a1, nI_inj (by omega) (by omega)] at h21
    omega
  · exact Or.inr ⟨j, j1, j2, a1, rfl, a3, a4, (kp j j1 j2 a5).1, by rw [s12]; exact a6, a7, ⟨m, m1, m8, rfl⟩, a9⟩
set_option maxRecDepth 20000 in
theorem p_Nf_receive (x b : Int32) (hJ : nw_J n w S B) : V mNf_receive 0 (nw_ent mNf_receive [.ref 1, .int x, .int b]) [] w 0 0 (nw_rj n B w (q_recv S x b)) := by
  have hO := hJ.1
  have hn4 := hO.2.1
  have hc := nw_cf hO
  obtain ⟨p, hp⟩ : ∃ p, p = q_recv S x b := ⟨_, rfl⟩
  rw [← hp, emNf_receive]
  unfold q_recv at hp
  have no : ¬ ((q_srv S x = true ∧ ¬ S.1 21 x.toNatClampNeg = nI 0) ∧ nI 1 ≤ b) → nw_rj n B w p (some (.int (-1))) w := fun h => by
    rw [if_neg h] at hp
    rw [hp]
    exact nw_rj_q hJ
  (apply V_s1 [] 5; simp only [nwx_0, nwx_S, nw_s1, nw_pII, nw_pA, nw_tIs, nw_vis, nw_jpx, Option.isSome_some, Option.getD_some, nw_popn, nw_rok, nw_wok, nw_isR, nw_cd, nw_at, nw_put, nw_nl0, nw_nlS, nw_no2s, nw_ft, nw_l01, nw_ak, nw_tsw, nw_flat, Value.category, List.mem_cons, List.not_mem_nil, List.length_cons, List.length_nil, or_false, false_or, or_true, true_or, and_true, true_and, and_false, false_and, if_true, if_false, Option.some.injEq, Prod.mk.injEq, and_assoc, exists_and_left, exists_eq_left, exists_eq_left', exists_const, nw_ks, nw_f4, nw_fvs, nw_some, Nat.reduceAdd, nw_sz_I, nw_kd_I, nw_ln_I, nw_rf_I, nw_L_I, nw_I_I, nw_sz_L, nw_kd_L, nw_ln_L, nw_rf_L, nw_I_L, nw_L_L, nw_ob_I, nw_ob_L, nw_obr_I, nw_obr_L, nI_add, nw_b0, nw_b1, nw_b01, not_false_eq_true, not_true_eq_false, false_implies, true_implies, Classical.not_not, nw_i10, decide_eq_false_iff_not, decide_eq_true_eq, ne_eq, Option.toList_some, Option.toList_none, List.cons_append, List.nil_append, reduceIte, Nat.reduceEqDiff, Nat.reduceLT, Nat.reduceLeDiff, Nat.reduceSub, Nat.reduceMul, reduceCtorEq, ↓nwx_aload_n, ↓nwx_iload_n, ↓nwx_invokevirtual, dmNf_receive_0, rmNf_receive, hc]; try simp (disch := omega) only [nw_b0, nw_b1, nw_ilt, nw_ile, nw_ieq, nw_icl, nw_iin, nI_add, and_true, true_and, and_false, false_and, not_false_eq_true, not_true_eq_false, false_implies, true_implies, Classical.not_not, ne_eq, reduceIte, Nat.reduceEqDiff, Nat.reduceLT, Nat.reduceLeDiff, Nat.reduceAdd, Nat.reduceSub, Nat.reduceMul, hc])
  refine nw_do0 (c_Nf_isServer x hO) ?_
  rintro r w' ⟨rfl, rfl⟩
  rw [← q_srv_k (j_g3 hJ)]
  by_cases hx : q_srv S x = true
  case neg =>
    rw [eq_false_of_ne_true hx]
    (apply V_s1 [30] 14; simp only [nwx_0, nwx_S, nw_s1, nw_pII, nw_pA, nw_tIs, nw_vis, nw_jpx, Option.isSome_some, Option.getD_some, nw_popn, nw_rok, nw_wok, nw_isR, nw_cd, nw_at, nw_put, nw_nl0, nw_nlS, nw_no2s, nw_ft, nw_l01, nw_ak, nw_tsw, nw_flat, Value.category, List.mem_cons, List.not_mem_nil, List.length_cons, List.length_nil, or_false, false_or, or_true, true_or, and_true, true_and, and_false, false_and, if_true, if_false, Option.some.injEq, Prod.mk.injEq, and_assoc, exists_and_left, exists_eq_left, exists_eq_left', exists_const, nw_ks, nw_f4, nw_fvs, nw_some, Nat.reduceAdd, nw_sz_I, nw_kd_I, nw_ln_I, nw_rf_I, nw_L_I, nw_I_I, nw_sz_L, nw_kd_L, nw_ln_L, nw_rf_L, nw_I_L, nw_L_L, nw_ob_I, nw_ob_L, nw_obr_I, nw_obr_L, nI_add, nw_b0, nw_b1, nw_b01, not_false_eq_true, not_true_eq_false, false_implies, true_implies, Classical.not_not, nw_i10, decide_eq_false_iff_not, decide_eq_true_eq, ne_eq, Option.toList_some, Option.toList_none, List.cons_append, List.nil_append, reduceIte, Nat.reduceEqDiff, Nat.reduceLT, Nat.reduceLeDiff, Nat.reduceSub, Nat.reduceMul, reduceCtorEq, ↓nwx_aaload, ↓nwx_aload_n, ↓nwx_getfield, ↓nwx_iconst, ↓nwx_ifCond, ↓nwx_if_icmp, ↓nwx_iload_n, ↓nwx_invokevirtual, ↓nwx_ireturn, dmNf_receive_0, rmNf_receive, nw_b_f]; try simp (disch := omega) only [nw_b0, nw_b1, nw_ilt, nw_ile, nw_ieq, nw_icl, nw_iin, nI_add, and_true, true_and, and_false, false_and, not_false_eq_true, not_true_eq_false, false_implies, true_implies, Classical.not_not, ne_eq, reduceIte, Nat.reduceEqDiff, Nat.reduceLT, Nat.reduceLeDiff, Nat.reduceAdd, Nat.reduceSub, Nat.reduceMul, nw_b_f])
    exact no (fun q => hx q.1.1)
  have hx1 := hx
  obtain ⟨s, hs, rfl⟩ := q_srv_ok (j_g3 hJ) hn4 hx
  have hcs : (nI s).toNatClampNeg = s := nI_clamp (by omega)
  rw [hcs] at hp no
  rw [hx1]
  have hsv := nw_cs hO hs
  have hv := nw_Ok_sv hO hs
  unfold nw_Sv at hv
  have v6 := hv.2.2.2.2.2.2.2.2.2.2.2.2.2.2.2.2.2.2.2.2.2.2.1
  obtain ⟨o1, o2⟩ := j_open hJ hs
  (apply V_s1 [30] 14; simp only [nwx_0, nwx_S, nw_s1, nw_pII, nw_pA, nw_tIs, nw_vis, nw_jpx, Option.isSome_some, Option.getD_some, nw_popn, nw_rok, nw_wok, nw_isR, nw_cd, nw_at, nw_put, nw_nl0, nw_nlS, nw_no2s, nw_ft, nw_l01, nw_ak, nw_tsw, nw_flat, Value.category, List.mem_cons, List.not_mem_nil, List.length_cons, List.length_nil, or_false, false_or, or_true, true_or, and_true, true_and, and_false, false_and, if_true, if_false, Option.some.injEq, Prod.mk.injEq, and_assoc, exists_and_left, exists_eq_left, exists_eq_left', exists_const, nw_ks, nw_f4, nw_fvs, nw_some, Nat.reduceAdd, nw_sz_I, nw_kd_I, nw_ln_I, nw_rf_I, nw_L_I, nw_I_I, nw_sz_L, nw_kd_L, nw_ln_L, nw_rf_L, nw_I_L, nw_L_L, nw_ob_I, nw_ob_L, nw_obr_I, nw_obr_L, nI_add, nw_b0, nw_b1, nw_b01, not_false_eq_true, not_true_eq_false, false_implies, true_implies, Classical.not_not, nw_i10, decide_eq_false_iff_not, decide_eq_true_eq, ne_eq, Option.toList_some, Option.toList_none, List.cons_append, List.nil_append, reduceIte, Nat.reduceEqDiff, Nat.reduceLT, Nat.reduceLeDiff, Nat.reduceSub, Nat.reduceMul, reduceCtorEq, ↓nwx_aaload, ↓nwx_aload_n, ↓nwx_getfield, ↓nwx_iconst, ↓nwx_ifCond, ↓nwx_if_icmp, ↓nwx_iload_n, ↓nwx_invokevirtual, ↓nwx_ireturn, dmNf_receive_0, rmNf_receive, nw_b_t, hc, hsv, hv, hcs]; try simp (disch := omega) only [nw_b0, nw_b1, nw_ilt, nw_ile, nw_ieq, nw_icl, nw_iin, nI_add, and_true, true_and, and_false, false_and, not_false_eq_true, not_true_eq_false, false_implies, true_implies, Classical.not_not, ne_eq, reduceIte, Nat.reduceEqDiff, Nat.reduceLT, Nat.reduceLeDiff, Nat.reduceAdd, Nat.reduceSub, Nat.reduceMul, nw_b_t, hc, hsv, hv, hcs])
  refine ⟨fun hb => no (fun q => absurd hb (Int32.not_lt.mpr q.2)), fun hb => ⟨hs, nw_do0 (c_In_isOpen v6) ?_⟩⟩
  rintro r w' ⟨rfl, rfl⟩
  (apply V_s1 [30] 5; simp only [nwx_0, nwx_S, nw_s1, nw_pII, nw_pA, nw_tIs, nw_vis, nw_jpx, Option.isSome_some, Option.getD_some, nw_popn, nw_rok, nw_wok, nw_isR, nw_cd, nw_at, nw_put, nw_nl0, nw_nlS, nw_no2s, nw_ft, nw_l01, nw_ak, nw_tsw, nw_flat, Value.category, List.mem_cons, List.not_mem_nil, List.length_cons, List.length_nil, or_false, false_or, or_true, true_or, and_true, true_and, and_false, false_and, if_true, if_false, Option.some.injEq, Prod.mk.injEq, and_assoc, exists_and_left, exists_eq_left, exists_eq_left', exists_const, nw_ks, nw_f4, nw_fvs, nw_some, Nat.reduceAdd, nw_sz_I, nw_kd_I, nw_ln_I, nw_rf_I, nw_L_I, nw_I_I, nw_sz_L, nw_kd_L, nw_ln_L, nw_rf_L, nw_I_L, nw_L_L, nw_ob_I, nw_ob_L, nw_obr_I, nw_obr_L, nI_add, nw_b0, nw_b1, nw_b01, not_false_eq_true, not_true_eq_false, false_implies, true_implies, Classical.not_not, nw_i10, decide_eq_false_iff_not, decide_eq_true_eq, ne_eq, Option.toList_some, Option.toList_none, List.cons_append, List.nil_append, reduceIte, Nat.reduceEqDiff, Nat.reduceLT, Nat.reduceLeDiff, Nat.reduceSub, Nat.reduceMul, reduceCtorEq, ↓nwx_iconst, ↓nwx_ifCond, ↓nwx_ireturn, dmNf_receive_0, rmNf_receive, o1]; try simp (disch := omega) only [nw_b0, nw_b1, nw_ilt, nw_ile, nw_ieq, nw_icl, nw_iin, nI_add, and_true, true_and, and_false, false_and, not_false_eq_true, not_true_eq_false, false_implies, true_implies, Classical.not_not, ne_eq, reduceIte, Nat.reduceEqDiff, Nat.reduceLT, Nat.reduceLeDiff, Nat.reduceAdd, Nat.reduceSub, Nat.reduceMul, o1])
  refine ⟨fun h21n => ?_, fun h21n => no (fun q => q.1.2 h21n)⟩
  rw [if_pos ⟨⟨hx1, h21n⟩, Int32.not_lt.mp hb⟩] at hp
  obtain ⟨i, i1, i2, h21, g61, g63, ⟨m, m1, m8, h22⟩, hsd⟩ : ∃ i, 1 ≤ i ∧ i ≤ 40 ∧ S.1 21 s = nI i ∧ nw_I w' (nw_S n s 6) 1 = S.1 22 s ∧ nw_I w' (nw_S n s 6) 3 = S.1 25 s ∧ (∃ m, 1 ≤ m ∧ m ≤ 8 ∧ S.1 22 s = nI m) ∧ (S.1 25 s = -1 ∨ ∃ t, t < n ∧ S.1 25 s = nI t) := by
    rcases (j_sv hJ hs).2.2.2.1.2 with ⟨a1, -⟩ | ⟨j, j1, j2, a1, a2, a3, a4, a5, a6, a7, a8, a9⟩
    · exact absurd a1 h21n
    · exact ⟨j, j1, j2, a1, a2, a4, a8, a9⟩
  have e1 : nw_I w' (nw_S n s 6) 1 = nI m := g61.trans h22
  unfold q_recI q_rec1 at hp
  rw [h22, h21, nI_clamp (by omega)] at hp
  (apply V_s1 [63] 20; simp only [nwx_0, nwx_S, nw_s1, nw_pII, nw_pA, nw_tIs, nw_vis, nw_jpx, Option.isSome_some, Option.getD_some, nw_popn, nw_rok, nw_wok, nw_isR, nw_cd, nw_at, nw_put, nw_nl0, nw_nlS, nw_no2s, nw_ft, nw_l01, nw_ak, nw_tsw, nw_flat, Value.category, List.mem_cons, List.not_mem_nil, List.length_cons, List.length_nil, or_false, false_or, or_true, true_or, and_true, true_and, and_false, false_and, if_true, if_false, Option.some.injEq, Prod.mk.injEq, and_assoc, exists_and_left, exists_eq_left, exists_eq_left', exists_const, nw_ks, nw_f4, nw_fvs, nw_some, Nat.reduceAdd, nw_sz_I, nw_kd_I, nw_ln_I, nw_rf_I, nw_L_I, nw_I_I, nw_sz_L, nw_kd_L, nw_ln_L, nw_rf_L, nw_I_L, nw_L_L, nw_ob_I, nw_ob_L, nw_obr_I, nw_obr_L, nI_add, nw_b0, nw_b1, nw_b01, not_false_eq_true, not_true_eq_false, false_implies, true_implies, Classical.not_not, nw_i10, decide_eq_false_iff_not, decide_eq_true_eq, ne_eq, Option.toList_some, Option.toList_none, List.cons_append, List.nil_append, reduceIte, Nat.reduceEqDiff, Nat.reduceLT, Nat.reduceLeDiff, Nat.reduceSub, Nat.reduceMul, reduceCtorEq, ↓nwx_aaload, ↓nwx_aload_n, ↓nwx_astore_n, ↓nwx_dup, ↓nwx_getfield, ↓nwx_iload_n, ↓nwx_invokestatic, ↓nwx_istore, ↓nwx_isub, ↓nwx_putI, ↓nwx_putR, dmNf_receive_0, rmNf_receive, hc, hsv, hv, hcs, e1]; try simp (disch := omega) only [nw_b0, nw_b1, nw_ilt, nw_ile, nw_ieq, nw_icl, nw_iin, nI_add, and_true, true_and, and_false, false_and, not_false_eq_true, not_true_eq_false, false_implies, true_implies, Classical.not_not, ne_eq, reduceIte, Nat.reduceEqDiff, Nat.reduceLT, Nat.reduceLeDiff, Nat.reduceAdd, Nat.reduceSub, Nat.reduceMul, hc, hsv, hv, hcs, e1])
  refine ⟨hs, ?_⟩
  rw [va_up_self, pk_us]
  have e22 : ∀ v, (q_i S 22 s v).1 22 s = v := fun v => pk_us
  rw [e22] at hp
  by_cases hbm : b < nI m
  · obtain ⟨b', hb', rfl⟩ := nw_iof (Int32.le_trans (by decide) (Int32.not_lt.mp hb))
    have hlt : b' < m := (nI_ltI (by omega) (by omega)).mp hbm
    have hb1 : 1 ≤ b' := (nI_leI (by omega) (by omega)).mp (Int32.not_lt.mp hb)
    have hsub : nI m - nI b' = nI (m - b') := by
      have : nI (m - b') + nI b' = nI m := by rw [nI_add, show m - b' + b' = m by omega]
      rw [← this, Int32.add_sub_cancel]
    have hne : ¬ nI (m - b') = nI 0 := by
      rw [nI_inj (by omega) (by omega)]
      omega
    rw [if_neg (Int32.not_lt.mpr (Int32.le_of_lt hbm)), hsub]
    rw [if_pos hbm, hsub, if_neg hne] at hp
    (apply V_s1 [] 9; simp only [nwx_0, nwx_S, nw_s1, nw_pII, nw_pA, nw_tIs, nw_vis, nw_jpx, Option.isSome_some, Option.getD_some, nw_popn, nw_rok, nw_wok, nw_isR, nw_cd, nw_at, nw_put, nw_nl0, nw_nlS, nw_no2s, nw_ft, nw_l01, nw_ak, nw_tsw, nw_flat, Value.category, List.mem_cons, List.not_mem_nil, List.length_cons, List.length_nil, or_false, false_or, or_true, true_or, and_true, true_and, and_false, false_and, if_true, if_false, Option.some.injEq, Prod.mk.injEq, and_assoc, exists_and_left, exists_eq_left, exists_eq_left', exists_const, nw_ks, nw_f4, nw_fvs, nw_some, Nat.reduceAdd, nw_sz_I, nw_kd_I, nw_ln_I, nw_rf_I, nw_L_I, nw_I_I, nw_sz_L, nw_kd_L, nw_ln_L, nw_rf_L, nw_I_L, nw_L_L, nw_ob_I, nw_ob_L, nw_obr_I, nw_obr_L, nI_add, nw_b0, nw_b1, nw_b01, not_false_eq_true, not_true_eq_false, false_implies, true_implies, Classical.not_not, nw_i10, decide_eq_false_iff_not, decide_eq_true_eq, ne_eq, Option.toList_some, Option.toList_none, List.cons_append, List.nil_append, reduceIte, Nat.reduceEqDiff, Nat.reduceLT, Nat.reduceLeDiff, Nat.reduceSub, Nat.reduceMul, reduceCtorEq, ↓nwx_aload_n, ↓nwx_ifCond, ↓nwx_iload, ↓nwx_iload_n, ↓nwx_invokevirtual, ↓nwx_ireturn, dmNf_receive_0, dmNf_receive_1, rmNf_receive, hne]; try simp (disch := omega) only [nw_b0, nw_b1, nw_ilt, nw_ile, nw_ieq, nw_icl, nw_iin, nI_add, and_true, true_and, and_false, false_and, not_false_eq_true, not_true_eq_false, false_implies, true_implies, Classical.not_not, ne_eq, reduceIte, Nat.reduceEqDiff, Nat.reduceLT, Nat.reduceLeDiff, Nat.reduceAdd, Nat.reduceSub, Nat.reduceMul, hne])
    rw [hp]
    obtain ⟨g1, g2⟩ := nw_J_miss hJ hs i1 i2 h21 (m := m - b') (by omega) (by omega)
    exact ⟨rfl, nw_J_up g1, g2⟩
  · have hz : nI m - (if nI m < b then nI m else b) = nI 0 := by
      by_cases h : nI m < b
      · rw [if_pos h]
        exact Int32.sub_self _
      · rw [if_neg h, Int32.le_antisymm (Int32.not_lt.mp h) (Int32.not_lt.mp hbm)]
        exact Int32.sub_self _
    rw [hz]
    rw [if_neg hbm, if_pos rfl, q_file_22, e22] at hp
    obtain ⟨w1, hw1⟩ : ∃ w1, w1 = nw_setI w' (nw_S n s 6) (upd (nw_I w' (nw_S n s 6)) 1 (nI 0)) := ⟨_, rfl⟩
    rw [← hw1]
    have O1 : nw_Ok n w1 := by
      rw [hw1]
      exact nw_Ok_1 (w := w') rfl hO
    have c1 := nw_cf O1
    have wI : ∀ a, a ≠ nw_S n s 6 → nw_I w1 a = nw_I w' a := fun a ha => by rw [hw1, nw_I_I, va_up_ne _ _ ha]
    have w6 : nw_I w1 (nw_S n s 6) = upd (nw_I w' (nw_S n s 6)) 1 (nI 0) := by rw [hw1, nw_S_Ieq]
    obtain ⟨-, -, -, g4, G, hG, g5, g6⟩ := hJ.2.2.1
    obtain ⟨c, hc40, h8⟩ := hJ.2.1.2.2 i i2
    have w63 : nw_I w1 (nw_S n s 6) 3 = S.1 25 s := by rw [w6, pk_un (by decide)]; exact g63
    (apply V_s1 [] 9; simp only [nwx_0, nwx_S, nw_s1, nw_pII, nw_pA, nw_tIs, nw_vis, nw_jpx, Option.isSome_some, Option.getD_some, nw_popn, nw_rok, nw_wok, nw_isR, nw_cd, nw_at, nw_put, nw_nl0, nw_nlS, nw_no2s, nw_ft, nw_l01, nw_ak, nw_tsw, nw_flat, Value.category, List.mem_cons, List.not_mem_nil, List.length_cons, List.length_nil, or_false, false_or, or_true, true_or, and_true, true_and, and_false, false_and, if_true, if_false, Option.some.injEq, Prod.mk.injEq, and_assoc, exists_and_left, exists_eq_left, exists_eq_left', exists_const, nw_ks, nw_f4, nw_fvs, nw_some, Nat.reduceAdd, nw_sz_I, nw_kd_I, nw_ln_I, nw_rf_I, nw_L_I, nw_I_I, nw_sz_L, nw_kd_L, nw_ln_L, nw_rf_L, nw_I_L, nw_L_L, nw_ob_I, nw_ob_L, nw_obr_I, nw_obr_L, nI_add, nw_b0, nw_b1, nw_b01, not_false_eq_true, not_true_eq_false, false_implies, true_implies, Classical.not_not, nw_i10, decide_eq_false_iff_not, decide_eq_true_eq, ne_eq, Option.toList_some, Option.toList_none, List.cons_append, List.nil_append, reduceIte, Nat.reduceEqDiff, Nat.reduceLT, Nat.reduceLeDiff, Nat.reduceSub, Nat.reduceMul, reduceCtorEq, ↓nwx_aload_n, ↓nwx_ifCond, ↓nwx_iload, ↓nwx_iload_n, ↓nwx_invokevirtual, ↓nwx_ireturn, dmNf_receive_0, dmNf_receive_1, rmNf_receive, c1]; try simp (disch := omega) only [nw_b0, nw_b1, nw_ilt, nw_ile, nw_ieq, nw_icl, nw_iin, nI_add, and_true, true_and, and_false, false_and, not_false_eq_true, not_true_eq_false, false_implies, true_implies, Classical.not_not, ne_eq, reduceIte, Nat.reduceEqDiff, Nat.reduceLT, Nat.reduceLeDiff, Nat.reduceAdd, Nat.reduceSub, Nat.reduceMul, c1])
    refine nw_do0 (c_Nf_fileIntake (G := G) (c := c) hs i1 i2 hG ?_ ?_ ?_ hc40 ?_ ?_ ?_ O1) ?_
    · rw [wI 1 nw_1_ne, g4, g5]
    · rw [w6, pk_un (by decide), o1, h21]
    · rw [wI _ (by rw [show nw_A n + 1 + i = nw_A n + (1 + i) by omega]; exact nw_A_ne hs (by omega))]
      exact (hJ.2.2.2.1 i i1 i2).2.2.2.2.1.trans h8
    · rw [w63]
      exact hsd
    · intro t ht
      rw [wI _ (by rw [Ne, nw_Sst (by omega) (by omega)]; omega)]
      obtain ⟨q, q1, q2, -⟩ := (j_sv hJ ht).2.2.2.2.2.2.2 s hs
      exact ⟨q, q1, q2⟩
    · intro w4 h4 t ht
      obtain ⟨q, q1, q2, -⟩ := j_no hJ hs i1 i2 h21 hw1 w4 h4 t ht
      exact ⟨q, q1, q2⟩
    · rintro r w2 ⟨rfl, hfil⟩
      (apply V_s1 [] 4; simp only [nwx_0, nwx_S, nw_s1, nw_pII, nw_pA, nw_tIs, nw_vis, nw_jpx, Option.isSome_some, Option.getD_some, nw_popn, nw_rok, nw_wok, nw_isR, nw_cd, nw_at, nw_put, nw_nl0, nw_nlS, nw_no2s, nw_ft, nw_l01, nw_ak, nw_tsw, nw_flat, Value.category, List.mem_cons, List.not_mem_nil, List.length_cons, List.length_nil, or_false, false_or, or_true, true_or, and_true, true_and, and_false, false_and, if_true, if_false, Option.some.injEq, Prod.mk.injEq, and_assoc, exists_and_left, exists_eq_left, exists_eq_left', exists_const, nw_ks, nw_f4, nw_fvs, nw_some, Nat.reduceAdd, nw_sz_I, nw_kd_I, nw_ln_I, nw_rf_I, nw_L_I, nw_I_I, nw_sz_L, nw_kd_L, nw_ln_L, nw_rf_L, nw_I_L, nw_L_L, nw_ob_I, nw_ob_L, nw_obr_I, nw_obr_L, nI_add, nw_b0, nw_b1, nw_b01, not_false_eq_true, not_true_eq_false, false_implies, true_implies, Classical.not_not, nw_i10, decide_eq_false_iff_not, decide_eq_true_eq, ne_eq, Option.toList_some, Option.toList_none, List.cons_append, List.nil_append, reduceIte, Nat.reduceEqDiff, Nat.reduceLT, Nat.reduceLeDiff, Nat.reduceSub, Nat.reduceMul, reduceCtorEq, ↓nwx_iload, ↓nwx_ireturn, dmNf_receive_0, dmNf_receive_1, rmNf_receive]; try simp (disch := omega) only [nw_b0, nw_b1, nw_ilt, nw_ile, nw_ieq, nw_icl, nw_iin, nI_add, and_true, true_and, and_false, false_and, not_false_eq_true, not_true_eq_false, false_implies, true_implies, Classical.not_not, ne_eq, reduceIte, Nat.reduceEqDiff, Nat.reduceLT, Nat.reduceLeDiff, Nat.reduceAdd, Nat.reduceSub, Nat.reduceMul])
      rw [hp]
      rw [w63] at hfil
      obtain ⟨g1, g2⟩ := nw_J_file hJ hs i1 i2 h21 hw1 rfl hG g5 hc40 h8 ⟨rfl, hfil⟩
      exact ⟨rfl, g1, g2⟩
end ND
