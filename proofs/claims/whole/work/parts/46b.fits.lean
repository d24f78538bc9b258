set_option maxRecDepth 20000 in
theorem c_Mo_fits {w : nw_W} (pt nm : Int64) {b e : Nat} (hbe : b ≤ e) (he : e ≤ 8) : V mMo_fits 0 (nw_ent mMo_fits [.long pt, .int (nI b), .int (nI e), .long nm, .int (nI (nw_len nm))]) [] w 0 0 (nw_ri1 (nw_b (nw_pl pt nm b (e - b) (nw_len nm))) w) := by
  generalize hQ : nw_ri1 (nw_b (nw_pl pt nm b (e - b) (nw_len nm))) w = Q
  have hL := nw_len_le nm
  generalize hM : nw_len nm = M at hL
  -- the innermost: bits p.. to M
  have lo : ∀ (k c p x : _) (y : Int32), ∀ d q, q + d = M + 1 → p ≤ q → ∀ (y' : Int32), (∀ i, i ≤ M → bt y' i = (bt y i || decide (p ≤ i ∧ i < q))) → (∀ y2 : Int32, (∀ i, i ≤ M → bt y2 i = (bt y i || decide (p ≤ i))) → ∀ v, V mMo_fits 134 [.long pt, nw_u, .int (nI b), .int (nI e), .long nm, nw_u, .int (nI M), .int x, .int (nI k), .int (nI c), .int y2, .int (nI p), .int (nI 1), v] [] w 0 0 Q) → V mMo_fits 67 [.long pt, nw_u, .int (nI b), .int (nI e), .long nm, nw_u, .int (nI M), .int x, .int (nI k), .int (nI c), .int y', .int (nI p), .int (nI 1), .int (nI q)] [] w 0 0 Q := by
    intro k c p x y d
    induction d with
    | zero =>
      intro q hq hpq y' hy hk
      have hq : q = M + 1 := by omega
      subst hq
      (apply V_s1 [67, 134] 14; simp only [nwx_0, nwx_S, nw_s1, nw_pII, nw_pA, nw_tIs, nw_vis, nw_jpx, Option.isSome_some, Option.getD_some, nw_popn, nw_rok, nw_wok, nw_isR, nw_cd, nw_at, nw_put, nw_nl0, nw_nlS, nw_no2s, nw_ft, nw_l01, nw_ak, nw_tsw, nw_flat, Value.category, List.mem_cons, List.not_mem_nil, List.length_cons, List.length_nil, or_false, false_or, or_true, true_or, and_true, true_and, and_false, false_and, if_true, if_false, Option.some.injEq, Prod.mk.injEq, and_assoc, exists_and_left, exists_eq_left, exists_eq_left', exists_const, nw_ks, nw_f4, nw_fvs, nw_some, Nat.reduceAdd, nw_sz_I, nw_kd_I, nw_ln_I, nw_rf_I, nw_L_I, nw_I_I, nw_sz_L, nw_kd_L, nw_ln_L, nw_rf_L, nw_I_L, nw_L_L, nw_ob_I, nw_ob_L, nw_obr_I, nw_obr_L, nI_add, nw_b0, nw_b1, nw_b01, not_false_eq_true, not_true_eq_false, false_implies, true_implies, Classical.not_not, nw_i10, decide_eq_false_iff_not, decide_eq_true_eq, ne_eq, Option.toList_some, Option.toList_none, List.cons_append, List.nil_append, reduceIte, Nat.reduceEqDiff, Nat.reduceLT, Nat.reduceLeDiff, Nat.reduceSub, Nat.reduceMul, reduceCtorEq, ↓nwx_goto, ↓nwx_iconst, ↓nwx_if_icmp, ↓nwx_iinc, ↓nwx_iload, ↓nwx_ior, ↓nwx_ishl, ↓nwx_istore, dmMo_fits_0, dmMo_fits_1, rmMo_fits]; try simp (disch := omega) only [nw_b0, nw_b1, nw_ilt, nw_ile, nw_ieq, nw_icl, nw_iin, nI_add, and_true, true_and, and_false, false_and, not_false_eq_true, not_true_eq_false, false_implies, true_implies, Classical.not_not, ne_eq, reduceIte, Nat.reduceEqDiff, Nat.reduceLT, Nat.reduceLeDiff, Nat.reduceAdd, Nat.reduceSub, Nat.reduceMul])
      refine br_t (by omega) (hk y' (fun i hi => ?_) _)
      rw [hy i hi]
      have : (p ≤ i ∧ i < M + 1) = (p ≤ i) := propext (by omega)
      simp only [this]
    | succ d ih =>
      intro q hq hpq y' hy hk
      (apply V_s1 [67, 134] 14; simp only [nwx_0, nwx_S, nw_s1, nw_pII, nw_pA, nw_tIs, nw_vis, nw_jpx, Option.isSome_some, Option.getD_some, nw_popn, nw_rok, nw_wok, nw_isR, nw_cd, nw_at, nw_put, nw_nl0, nw_nlS, nw_no2s, nw_ft, nw_l01, nw_ak, nw_tsw, nw_flat, Value.category, List.mem_cons, List.not_mem_nil, List.length_cons, List.length_nil, or_false, false_or, or_true, true_or, and_true, true_and, and_false, false_and, if_true, if_false, Option.some.injEq, Prod.mk.injEq, and_assoc, exists_and_left, exists_eq_left, exists_eq_left', exists_const, nw_ks, nw_f4, nw_fvs, nw_some, Nat.reduceAdd, nw_sz_I, nw_kd_I, nw_ln_I, nw_rf_I, nw_L_I, nw_I_I, nw_sz_L, nw_kd_L, nw_ln_L, nw_rf_L, nw_I_L, nw_L_L, nw_ob_I, nw_ob_L, nw_obr_I, nw_obr_L, nI_add, nw_b0, nw_b1, nw_b01, not_false_eq_true, not_true_eq_false, false_implies, true_implies, Classical.not_not, nw_i10, decide_eq_false_iff_not, decide_eq_true_eq, ne_eq, Option.toList_some, Option.toList_none, List.cons_append, List.nil_append, reduceIte, Nat.reduceEqDiff, Nat.reduceLT, Nat.reduceLeDiff, Nat.reduceSub, Nat.reduceMul, reduceCtorEq, ↓nwx_goto, ↓nwx_iconst, ↓nwx_if_icmp, ↓nwx_iinc, ↓nwx_iload, ↓nwx_ior, ↓nwx_ishl, ↓nwx_istore, dmMo_fits_0, dmMo_fits_1, rmMo_fits]; try simp (disch := omega) only [nw_b0, nw_b1, nw_ilt, nw_ile, nw_ieq, nw_icl, nw_iin, nI_add, and_true, true_and, and_false, false_and, not_false_eq_true, not_true_eq_false, false_implies, true_implies, Classical.not_not, ne_eq, reduceIte, Nat.reduceEqDiff, Nat.reduceLT, Nat.reduceLeDiff, Nat.reduceAdd, Nat.reduceSub, Nat.reduceMul])
      refine br_f (by omega) (ih (q + 1) (by omega) (by omega) _ (fun i hi => ?_) hk)
      rw [b_or, nw_bt_1 q (by omega) (by omega), hy i hi]
      by_cases hiq : i = q
      · subst hiq; simp [hpq]
      · have : (p ≤ i ∧ i < q + 1) = (p ≤ i ∧ i < q) := propext (by omega)
        simp [hiq, this]
  have mid : ∀ (k : Nat) (x : Int32), b + k < 8 → (∀ p, p ≤ M → bt x p = nw_pl pt nm b k p) → (∀ y : Int32, (∀ q, q ≤ M → bt y q = nw_pl pt nm b (k + 1) q) → ∀ v11 v12 v13, V mMo_fits 140 [.long pt, nw_u, .int (nI b), .int (nI e), .long nm, nw_u, .int (nI M), .int x, .int (nI (b + k)), .int (nI (nw_ch pt (b + k))), .int y, v11, v12, v13] [] w 0 0 Q) →
      ∀ d p, p + d = M + 1 → ∀ (y : Int32), (∀ q, q ≤ M → bt y q = if nw_ch pt (b + k) = 42 then decide (∃ p', p' < p ∧ p' ≤ q ∧ nw_pl pt nm b k p' = true) else decide (1 ≤ q ∧ q - 1 < p) && nw_pl pt nm b k (q - 1) && (decide (nw_ch pt (b + k) = 63) || decide (nw_ch pt (b + k) = nw_ch nm (q - 1)))) → ∀ v12 v13, V mMo_fits 26 [.long pt, nw_u, .int (nI b), .int (nI e), .long nm, nw_u, .int (nI M), .int x, .int (nI (b + k)), .int (nI (nw_ch pt (b + k))), .int y, .int (nI p), v12, v13] [] w 0 0 Q := by
    intro k x hk8 hx hk d
    have hb := nw_ch_b pt (b + k)
    induction d with
    | zero =>
      intro p hp y hy v12 v13
      have hp : p = M + 1 := by omega
      subst hp
      (apply V_s1 [26, 67, 134, 140] 43; simp only [nwx_0, nwx_S, nw_s1, nw_pII, nw_pA, nw_tIs, nw_vis, nw_jpx, Option.isSome_some, Option.getD_some, nw_popn, nw_rok, nw_wok, nw_isR, nw_cd, nw_at, nw_put, nw_nl0, nw_nlS, nw_no2s, nw_ft, nw_l01, nw_ak, nw_tsw, nw_flat, Value.category, List.mem_cons, List.not_mem_nil, List.length_cons, List.length_nil, or_false, false_or, or_true, true_or, and_true, true_and, and_false, false_and, if_true, if_false, Option.some.injEq, Prod.mk.injEq, and_assoc, exists_and_left, exists_eq_left, exists_eq_left', exists_const, nw_ks, nw_f4, nw_fvs, nw_some, Nat.reduceAdd, nw_sz_I, nw_kd_I, nw_ln_I, nw_rf_I, nw_L_I, nw_I_I, nw_sz_L, nw_kd_L, nw_ln_L, nw_rf_L, nw_I_L, nw_L_L, nw_ob_I, nw_ob_L, nw_obr_I, nw_obr_L, nI_add, nw_b0, nw_b1, nw_b01, not_false_eq_true, not_true_eq_false, false_implies, true_implies, Classical.not_not, nw_i10, decide_eq_false_iff_not, decide_eq_true_eq, ne_eq, Option.toList_some, Option.toList_none, List.cons_append, List.nil_append, reduceIte, Nat.reduceEqDiff, Nat.reduceLT, Nat.reduceLeDiff, Nat.reduceSub, Nat.reduceMul, reduceCtorEq, ↓nwx_bipush, ↓nwx_goto, ↓nwx_iadd, ↓nwx_iand, ↓nwx_iconst, ↓nwx_ifCond, ↓nwx_if_icmp, ↓nwx_iload, ↓nwx_invokestatic, ↓nwx_ior, ↓nwx_ishl, ↓nwx_ishr, ↓nwx_istore, ↓nwx_lload, dmMo_fits_0, dmMo_fits_1, rmMo_fits]; try simp (disch := omega) only [nw_b0, nw_b1, nw_ilt, nw_ile, nw_ieq, nw_icl, nw_iin, nI_add, and_true, true_and, and_false, false_and, not_false_eq_true, not_true_eq_false, false_implies, true_implies, Classical.not_not, ne_eq, reduceIte, Nat.reduceEqDiff, Nat.reduceLT, Nat.reduceLeDiff, Nat.reduceAdd, Nat.reduceSub, Nat.reduceMul])
      refine br_t (by omega) (hk y (fun q hq => ?_) _ _ _)
      rw [hy q hq]
      simp only [nw_pl]
      by_cases h42 : nw_ch pt (b + k) = 42
      · rw [if_pos h42, if_pos h42, Bool.eq_iff_iff, nw_ex1_ok, decide_eq_true_eq]
        exact ⟨fun ⟨p', h1, h2, h3⟩ => ⟨p', h2, h3⟩, fun ⟨p', h1, h2⟩ => ⟨p', by omega, h1, h2⟩⟩
      · rw [if_neg h42, if_neg h42]
        have : (1 ≤ q ∧ q - 1 < M + 1) = (1 ≤ q) := propext (by omega)
        simp only [this]
    | succ d ih =>
      intro p hp y hy v12 v13
      have hxp := hx p (by omega)
      have nx : ∀ y2 : Int32, (∀ q, q ≤ M → bt y2 q = if nw_ch pt (b + k) = 42 then decide (∃ p', p' < p + 1 ∧ p' ≤ q ∧ nw_pl pt nm b k p' = true) else decide (1 ≤ q ∧ q - 1 < p + 1) && nw_pl pt nm b k (q - 1) && (decide (nw_ch pt (b + k) = 63) || decide (nw_ch pt (b + k) = nw_ch nm (q - 1)))) → ∀ v12 v13, V mMo_fits 134 [.long pt, nw_u, .int (nI b), .int (nI e), .long nm, nw_u, .int (nI M), .int x, .int (nI (b + k)), .int (nI (nw_ch pt (b + k))), .int y2, .int (nI p), v12, v13] [] w 0 0 Q := fun y2 hy2 v12 v13 => by
        (apply V_s1 [26] 4; simp only [nwx_0, nwx_S, nw_s1, nw_pII, nw_pA, nw_tIs, nw_vis, nw_jpx, Option.isSome_some, Option.getD_some, nw_popn, nw_rok, nw_wok, nw_isR, nw_cd, nw_at, nw_put, nw_nl0, nw_nlS, nw_no2s, nw_ft, nw_l01, nw_ak, nw_tsw, nw_flat, Value.category, List.mem_cons, List.not_mem_nil, List.length_cons, List.length_nil, or_false, false_or, or_true, true_or, and_true, true_and, and_false, false_and, if_true, if_false, Option.some.injEq, Prod.mk.injEq, and_assoc, exists_and_left, exists_eq_left, exists_eq_left', exists_const, nw_ks, nw_f4, nw_fvs, nw_some, Nat.reduceAdd, nw_sz_I, nw_kd_I, nw_ln_I, nw_rf_I, nw_L_I, nw_I_I, nw_sz_L, nw_kd_L, nw_ln_L, nw_rf_L, nw_I_L, nw_L_L, nw_ob_I, nw_ob_L, nw_obr_I, nw_obr_L, nI_add, nw_b0, nw_b1, nw_b01, not_false_eq_true, not_true_eq_false, false_implies, true_implies, Classical.not_not, nw_i10, decide_eq_false_iff_not, decide_eq_true_eq, ne_eq, Option.toList_some, Option.toList_none, List.cons_append, List.nil_append, reduceIte, Nat.reduceEqDiff, Nat.reduceLT, Nat.reduceLeDiff, Nat.reduceSub, Nat.reduceMul, reduceCtorEq, ↓nwx_goto, ↓nwx_iinc, dmMo_fits_1, rmMo_fits]; try simp (disch := omega) only [nw_b0, nw_b1, nw_ilt, nw_ile, nw_ieq, nw_icl, nw_iin, nI_add, and_true, true_and, and_false, false_and, not_false_eq_true, not_true_eq_false, false_implies, true_implies, Classical.not_not, ne_eq, reduceIte, Nat.reduceEqDiff, Nat.reduceLT, Nat.reduceLeDiff, Nat.reduceAdd, Nat.reduceSub, Nat.reduceMul])
        exact ih (p + 1) (by omega) y2 hy2 _ _
      -- nothing comes to the set
      have none : (∀ q, q ≤ M → (if nw_ch pt (b + k) = 42 then (q ≥ p → nw_pl pt nm b k p = true → False) else (q = p + 1 → (nw_pl pt nm b k p && (decide (nw_ch pt (b + k) = 63) || decide (nw_ch pt (b + k) = nw_ch nm p))) = false))) → ∀ v12 v13, V mMo_fits 134 [.long pt, nw_u, .int (nI b), .int (nI e), .long nm, nw_u, .int (nI M), .int x, .int (nI (b + k)), .int (nI (nw_ch pt (b + k))), .int y, .int (nI p), v12, v13] [] w 0 0 Q := fun hn => nx y (fun q hq => by
        rw [hy q hq]
        have hn := hn q hq
        by_cases h42 : nw_ch pt (b + k) = 42
        · rw [if_pos h42] at hn ⊢
          rw [if_pos h42, Bool.eq_iff_iff, decide_eq_true_eq, decide_eq_true_eq]
          constructor
          · rintro ⟨p', h1, h2, h3⟩
            exact ⟨p', by omega, h2, h3⟩
          · rintro ⟨p', h1, h2, h3⟩
            refine ⟨p', ?_, h2, h3⟩
            rcases Nat.lt_or_ge p' p with h | h
            · exact h
            · have : p' = p := by omega
              subst this
              exact (hn h2 h3).elim
        · rw [if_neg h42] at hn ⊢
          rw [if_neg h42]
          by_cases hqp : q = p + 1
          · subst hqp
            have hn := hn rfl
            have e1 : decide (1 ≤ p + 1 ∧ p + 1 - 1 < p) = false := by simp
            have e2 : decide (1 ≤ p + 1 ∧ p + 1 - 1 < p + 1) = true := by simp
            rw [e1, e2, show p + 1 - 1 = p by omega, Bool.true_and, hn]
            rfl
          · have : (1 ≤ q ∧ q - 1 < p) = (1 ≤ q ∧ q - 1 < p + 1) := propext (by omega)
            simp only [this])
      have set1 : ¬ nw_ch pt (b + k) = 42 → nw_pl pt nm b k p = true → ¬ M ≤ p → (decide (nw_ch pt (b + k) = 63) || decide (nw_ch pt (b + k) = nw_ch nm p)) = true → ∀ v12 v13, V mMo_fits 134 [.long pt, nw_u, .int (nI b), .int (nI e), .long nm, nw_u, .int (nI M), .int x, .int (nI (b + k)), .int (nI (nw_ch pt (b + k))), .int (y ||| nI 1 <<< (nI (p + 1) &&& 31)), .int (nI p), v12, v13] [] w 0 0 Q := fun h42 h hMp h63 => nx _ (fun q hq => by
        rw [b_or, nw_bt_1 (p + 1) (by omega) (by omega), hy q hq, if_neg h42, if_neg h42]
        by_cases hqp : q = p + 1
        · subst hqp
          have e2 : decide (1 ≤ p + 1 ∧ p + 1 - 1 < p + 1) = true := by simp
          rw [e2, show p + 1 - 1 = p by omega, h, h63]
          simp
        · have : (1 ≤ q ∧ q - 1 < p) = (1 ≤ q ∧ q - 1 < p + 1) := propext (by omega)
          simp only [this, hqp, decide_false, Bool.or_false])
      have hb2 := nw_ch_b nm p
      (apply V_s1 [26, 67, 134, 140] 43; simp only [nwx_0, nwx_S, nw_s1, nw_pII, nw_pA, nw_tIs, nw_vis, nw_jpx, Option.isSome_some, Option.getD_some, nw_popn, nw_rok, nw_wok, nw_isR, nw_cd, nw_at, nw_put, nw_nl0, nw_nlS, nw_no2s, nw_ft, nw_l01, nw_ak, nw_tsw, nw_flat, Value.category, List.mem_cons, List.not_mem_nil, List.length_cons, List.length_nil, or_false, false_or, or_true, true_or, and_true, true_and, and_false, false_and, if_true, if_false, Option.some.injEq, Prod.mk.injEq, and_assoc, exists_and_left, exists_eq_left, exists_eq_left', exists_const, nw_ks, nw_f4, nw_fvs, nw_some, Nat.reduceAdd, nw_sz_I, nw_kd_I, nw_ln_I, nw_rf_I, nw_L_I, nw_I_I, nw_sz_L, nw_kd_L, nw_ln_L, nw_rf_L, nw_I_L, nw_L_L, nw_ob_I, nw_ob_L, nw_obr_I, nw_obr_L, nI_add, nw_b0, nw_b1, nw_b01, not_false_eq_true, not_true_eq_false, false_implies, true_implies, Classical.not_not, nw_i10, decide_eq_false_iff_not, decide_eq_true_eq, ne_eq, Option.toList_some, Option.toList_none, List.cons_append, List.nil_append, reduceIte, Nat.reduceEqDiff, Nat.reduceLT, Nat.reduceLeDiff, Nat.reduceSub, Nat.reduceMul, reduceCtorEq, ↓nwx_bipush, ↓nwx_goto, ↓nwx_iadd, ↓nwx_iand, ↓nwx_iconst, ↓nwx_ifCond, ↓nwx_if_icmp, ↓nwx_iload, ↓nwx_invokestatic, ↓nwx_ior, ↓nwx_ishl, ↓nwx_ishr, ↓nwx_istore, ↓nwx_lload, dmMo_fits_0, dmMo_fits_1, rmMo_fits, nw_bit, hxp]; try simp (disch := omega) only [nw_b0, nw_b1, nw_ilt, nw_ile, nw_ieq, nw_icl, nw_iin, nI_add, and_true, true_and, and_false, false_and, not_false_eq_true, not_true_eq_false, false_implies, true_implies, Classical.not_not, ne_eq, reduceIte, Nat.reduceEqDiff, Nat.reduceLT, Nat.reduceLeDiff, Nat.reduceAdd, Nat.reduceSub, Nat.reduceMul, nw_bit, hxp])
      refine br_f (by omega) ⟨fun h => none (fun q hq => ?_) _ _, fun h => ⟨fun h42 => ⟨fun hMp => none (fun q hq => ?_) _ _, fun hMp => ⟨fun h63 => set1 h42 h hMp (by simp [h63]) _ _, fun h63 => ?_⟩⟩, fun h42 => ?_⟩⟩
      · split
        · exact fun _ q => h q
        · intro _
          have : nw_pl pt nm b k p = false := by simpa using h
          rw [this]
          rfl
      · rw [if_neg h42]
        intro hq2
        omega
      · refine nw_do0 (c_Mo_at nm (show p < 8 by omega)) ?_
        rintro r w' ⟨rfl, rfl⟩
        (apply V_s1 [134] 11; simp only [nwx_0, nwx_S, nw_s1, nw_pII, nw_pA, nw_tIs, nw_vis, nw_jpx, Option.isSome_some, Option.getD_some, nw_popn, nw_rok, nw_wok, nw_isR, nw_cd, nw_at, nw_put, nw_nl0, nw_nlS, nw_no2s, nw_ft, nw_l01, nw_ak, nw_tsw, nw_flat, Value.category, List.mem_cons, List.not_mem_nil, List.length_cons, List.length_nil, or_false, false_or, or_true, true_or, and_true, true_and, and_false, false_and, if_true, if_false, Option.some.injEq, Prod.mk.injEq, and_assoc, exists_and_left, exists_eq_left, exists_eq_left', exists_const, nw_ks, nw_f4, nw_fvs, nw_some, Nat.reduceAdd, nw_sz_I, nw_kd_I, nw_ln_I, nw_rf_I, nw_L_I, nw_I_I, nw_sz_L, nw_kd_L, nw_ln_L, nw_rf_L, nw_I_L, nw_L_L, nw_ob_I, nw_ob_L, nw_obr_I, nw_obr_L, nI_add, nw_b0, nw_b1, nw_b01, not_false_eq_true, not_true_eq_false, false_implies, true_implies, Classical.not_not, nw_i10, decide_eq_false_iff_not, decide_eq_true_eq, ne_eq, Option.toList_some, Option.toList_none, List.cons_append, List.nil_append, reduceIte, Nat.reduceEqDiff, Nat.reduceLT, Nat.reduceLeDiff, Nat.reduceSub, Nat.reduceMul, reduceCtorEq, ↓nwx_iadd, ↓nwx_iconst, ↓nwx_if_icmp, ↓nwx_iload, ↓nwx_ior, ↓nwx_ishl, ↓nwx_istore, dmMo_fits_1, rmMo_fits]; try simp (disch := omega) only [nw_b0, nw_b1, nw_ilt, nw_ile, nw_ieq, nw_icl, nw_iin, nI_add, and_true, true_and, and_false, false_and, not_false_eq_true, not_true_eq_false, false_implies, true_implies, Classical.not_not, ne_eq, reduceIte, Nat.reduceEqDiff, Nat.reduceLT, Nat.reduceLeDiff, Nat.reduceAdd, Nat.reduceSub, Nat.reduceMul])
        refine ⟨fun hc => none (fun q hq => ?_) _ _, fun hc => set1 h42 h hMp (by simp [hc]) _ _⟩
        rw [if_neg h42]
        intro _
        simp [h63, hc]
      · refine lo (b + k) _ p x y (M + 1 - p) p (by omega) (Nat.le_refl _) y (fun i hi => by
          have : (p ≤ i ∧ i < p) = False := eq_false (by omega)
          simp [this]) (fun y2 hy2 v => nx y2 (fun q hq => ?_) _ _)
        rw [hy2 q hq, hy q hq, if_pos h42, if_pos h42, Bool.eq_iff_iff, Bool.or_eq_true, decide_eq_true_eq, decide_eq_true_eq, decide_eq_true_eq]
        constructor
        · rintro (⟨p', h1, h2, h3⟩ | h1)
          · exact ⟨p', by omega, h2, h3⟩
          · exact ⟨p, by omega, h1, h⟩
        · rintro ⟨p', h1, h2, h3⟩
          by_cases hp' : p' = p
          · exact Or.inr (by omega)
          · exact Or.inl ⟨p', by omega, h2, h3⟩
  have loop : ∀ d k, b + k + d = e → ∀ x, (∀ p, p ≤ M → bt x p = nw_pl pt nm b k p) → ∀ v9 v10 v11 v12 v13, V mMo_fits 6 [.long pt, nw_u, .int (nI b), .int (nI e), .long nm, nw_u, .int (nI M), .int x, .int (nI (b + k)), v9, v10, v11, v12, v13] [] w 0 0 Q := by
    intro d
    induction d with
    | zero =>
      intro k hk x hx v9 v10 v11 v12 v13
      have hk : e = b + k := by omega
      subst hk
      have hxM := hx M (Nat.le_refl _)
      (apply V_s1 [6, 26] 19; simp only [nwx_0, nwx_S, nw_s1, nw_pII, nw_pA, nw_tIs, nw_vis, nw_jpx, Option.isSome_some, Option.getD_some, nw_popn, nw_rok, nw_wok, nw_isR, nw_cd, nw_at, nw_put, nw_nl0, nw_nlS, nw_no2s, nw_ft, nw_l01, nw_ak, nw_tsw, nw_flat, Value.category, List.mem_cons, List.not_mem_nil, List.length_cons, List.length_nil, or_false, false_or, or_true, true_or, and_true, true_and, and_false, false_and, if_true, if_false, Option.some.injEq, Prod.mk.injEq, and_assoc, exists_and_left, exists_eq_left, exists_eq_left', exists_const, nw_ks, nw_f4, nw_fvs, nw_some, Nat.reduceAdd, nw_sz_I, nw_kd_I, nw_ln_I, nw_rf_I, nw_L_I, nw_I_I, nw_sz_L, nw_kd_L, nw_ln_L, nw_rf_L, nw_I_L, nw_L_L, nw_ob_I, nw_ob_L, nw_obr_I, nw_obr_L, nI_add, nw_b0, nw_b1, nw_b01, not_false_eq_true, not_true_eq_false, false_implies, true_implies, Classical.not_not, nw_i10, decide_eq_false_iff_not, decide_eq_true_eq, ne_eq, Option.toList_some, Option.toList_none, List.cons_append, List.nil_append, reduceIte, Nat.reduceEqDiff, Nat.reduceLT, Nat.reduceLeDiff, Nat.reduceSub, Nat.reduceMul, reduceCtorEq, ↓nwx_goto, ↓nwx_iand, ↓nwx_iconst, ↓nwx_if_icmp, ↓nwx_iload, ↓nwx_iload_n, ↓nwx_invokestatic, ↓nwx_ireturn, ↓nwx_ishr, ↓nwx_lload_n, dmMo_fits_0, dmMo_fits_1, dmMo_fits_2, rmMo_fits, nw_bit, hxM]; try simp (disch := omega) only [nw_b0, nw_b1, nw_ilt, nw_ile, nw_ieq, nw_icl, nw_iin, nI_add, and_true, true_and, and_false, false_and, not_false_eq_true, not_true_eq_false, false_implies, true_implies, Classical.not_not, ne_eq, reduceIte, Nat.reduceEqDiff, Nat.reduceLT, Nat.reduceLeDiff, Nat.reduceAdd, Nat.reduceSub, Nat.reduceMul, nw_bit, hxM])
      refine br_t (Nat.le_refl _) ?_
      rw [← hQ, hM, show b + k - b = k by omega]
      exact ⟨fun h => nw_rb0 (by simpa using h), fun h => nw_rb1 h⟩
    | succ d ih =>
      intro k hk x hx v9 v10 v11 v12 v13
      (apply V_s1 [6, 26] 19; simp only [nwx_0, nwx_S, nw_s1, nw_pII, nw_pA, nw_tIs, nw_vis, nw_jpx, Option.isSome_some, Option.getD_some, nw_popn, nw_rok, nw_wok, nw_isR, nw_cd, nw_at, nw_put, nw_nl0, nw_nlS, nw_no2s, nw_ft, nw_l01, nw_ak, nw_tsw, nw_flat, Value.category, List.mem_cons, List.not_mem_nil, List.length_cons, List.length_nil, or_false, false_or, or_true, true_or, and_true, true_and, and_false, false_and, if_true, if_false, Option.some.injEq, Prod.mk.injEq, and_assoc, exists_and_left, exists_eq_left, exists_eq_left', exists_const, nw_ks, nw_f4, nw_fvs, nw_some, Nat.reduceAdd, nw_sz_I, nw_kd_I, nw_ln_I, nw_rf_I, nw_L_I, nw_I_I, nw_sz_L, nw_kd_L, nw_ln_L, nw_rf_L, nw_I_L, nw_L_L, nw_ob_I, nw_ob_L, nw_obr_I, nw_obr_L, nI_add, nw_b0, nw_b1, nw_b01, not_false_eq_true, not_true_eq_false, false_implies, true_implies, Classical.not_not, nw_i10, decide_eq_false_iff_not, decide_eq_true_eq, ne_eq, Option.toList_some, Option.toList_none, List.cons_append, List.nil_append, reduceIte, Nat.reduceEqDiff, Nat.reduceLT, Nat.reduceLeDiff, Nat.reduceSub, Nat.reduceMul, reduceCtorEq, ↓nwx_goto, ↓nwx_iand, ↓nwx_iconst, ↓nwx_if_icmp, ↓nwx_iload, ↓nwx_iload_n, ↓nwx_invokestatic, ↓nwx_ireturn, ↓nwx_ishr, ↓nwx_lload_n, dmMo_fits_0, dmMo_fits_1, dmMo_fits_2, rmMo_fits]; try simp (disch := omega) only [nw_b0, nw_b1, nw_ilt, nw_ile, nw_ieq, nw_icl, nw_iin, nI_add, and_true, true_and, and_false, false_and, not_false_eq_true, not_true_eq_false, false_implies, true_implies, Classical.not_not, ne_eq, reduceIte, Nat.reduceEqDiff, Nat.reduceLT, Nat.reduceLeDiff, Nat.reduceAdd, Nat.reduceSub, Nat.reduceMul])
      refine br_f (by omega) ?_
      refine nw_do0 (c_Mo_at pt (show b + k < 8 by omega)) ?_
      rintro r w' ⟨rfl, rfl⟩
      (apply V_s1 [26] 7; simp only [nwx_0, nwx_S, nw_s1, nw_pII, nw_pA, nw_tIs, nw_vis, nw_jpx, Option.isSome_some, Option.getD_some, nw_popn, nw_rok, nw_wok, nw_isR, nw_cd, nw_at, nw_put, nw_nl0, nw_nlS, nw_no2s, nw_ft, nw_l01, nw_ak, nw_tsw, nw_flat, Value.category, List.mem_cons, List.not_mem_nil, List.length_cons, List.length_nil, or_false, false_or, or_true, true_or, and_true, true_and, and_false, false_and, if_true, if_false, Option.some.injEq, Prod.mk.injEq, and_assoc, exists_and_left, exists_eq_left, exists_eq_left', exists_const, nw_ks, nw_f4, nw_fvs, nw_some, Nat.reduceAdd, nw_sz_I, nw_kd_I, nw_ln_I, nw_rf_I, nw_L_I, nw_I_I, nw_sz_L, nw_kd_L, nw_ln_L, nw_rf_L, nw_I_L, nw_L_L, nw_ob_I, nw_ob_L, nw_obr_I, nw_obr_L, nI_add, nw_b0, nw_b1, nw_b01, not_false_eq_true, not_true_eq_false, false_implies, true_implies, Classical.not_not, nw_i10, decide_eq_false_iff_not, decide_eq_true_eq, ne_eq, Option.toList_some, Option.toList_none, List.cons_append, List.nil_append, reduceIte, Nat.reduceEqDiff, Nat.reduceLT, Nat.reduceLeDiff, Nat.reduceSub, Nat.reduceMul, reduceCtorEq, ↓nwx_iconst, ↓nwx_istore, dmMo_fits_0, rmMo_fits]; try simp (disch := omega) only [nw_b0, nw_b1, nw_ilt, nw_ile, nw_ieq, nw_icl, nw_iin, nI_add, and_true, true_and, and_false, false_and, not_false_eq_true, not_true_eq_false, false_implies, true_implies, Classical.not_not, ne_eq, reduceIte, Nat.reduceEqDiff, Nat.reduceLT, Nat.reduceLeDiff, Nat.reduceAdd, Nat.reduceSub, Nat.reduceMul])
      refine mid k x (by omega) hx (fun y hy v11 v12 v13 => ?_) (M + 1) 0 (by omega) (nI 0) (fun q hq => ?_) _ _
      · (apply V_s1 [6] 6; simp only [nwx_0, nwx_S, nw_s1, nw_pII, nw_pA, nw_tIs, nw_vis, nw_jpx, Option.isSome_some, Option.getD_some, nw_popn, nw_rok, nw_wok, nw_isR, nw_cd, nw_at, nw_put, nw_nl0, nw_nlS, nw_no2s, nw_ft, nw_l01, nw_ak, nw_tsw, nw_flat, Value.category, List.mem_cons, List.not_mem_nil, List.length_cons, List.length_nil, or_false, false_or, or_true, true_or, and_true, true_and, and_false, false_and, if_true, if_false, Option.some.injEq, Prod.mk.injEq, and_assoc, exists_and_left, exists_eq_left, exists_eq_left', exists_const, nw_ks, nw_f4, nw_fvs, nw_some, Nat.reduceAdd, nw_sz_I, nw_kd_I, nw_ln_I, nw_rf_I, nw_L_I, nw_I_I, nw_sz_L, nw_kd_L, nw_ln_L, nw_rf_L, nw_I_L, nw_L_L, nw_ob_I, nw_ob_L, nw_obr_I, nw_obr_L, nI_add, nw_b0, nw_b1, nw_b01, not_false_eq_true, not_true_eq_false, false_implies, true_implies, Classical.not_not, nw_i10, decide_eq_false_iff_not, decide_eq_true_eq, ne_eq, Option.toList_some, Option.toList_none, List.cons_append, List.nil_append, reduceIte, Nat.reduceEqDiff, Nat.reduceLT, Nat.reduceLeDiff, Nat.reduceSub, Nat.reduceMul, reduceCtorEq, ↓nwx_goto, ↓nwx_iinc, ↓nwx_iload, ↓nwx_istore, dmMo_fits_1, rmMo_fits]; try simp (disch := omega) only [nw_b0, nw_b1, nw_ilt, nw_ile, nw_ieq, nw_icl, nw_iin, nI_add, and_true, true_and, and_false, false_and, not_false_eq_true, not_true_eq_false, false_implies, true_implies, Classical.not_not, ne_eq, reduceIte, Nat.reduceEqDiff, Nat.reduceLT, Nat.reduceLeDiff, Nat.reduceAdd, Nat.reduceSub, Nat.reduceMul])
        exact ih (k + 1) (by omega) y hy _ _ _ _ _
      · rw [nI_0, b_0]
        split
        · symm
          exact decide_eq_false (fun ⟨p', h, _⟩ => absurd h (by omega))
        · have : (1 ≤ q ∧ q - 1 < 0) = False := eq_false (by omega)
          simp [this]
  rw [emMo_fits]
  (apply V_s1 [6] 6; simp only [nwx_0, nwx_S, nw_s1, nw_pII, nw_pA, nw_tIs, nw_vis, nw_jpx, Option.isSome_some, Option.getD_some, nw_popn, nw_rok, nw_wok, nw_isR, nw_cd, nw_at, nw_put, nw_nl0, nw_nlS, nw_no2s, nw_ft, nw_l01, nw_ak, nw_tsw, nw_flat, Value.category, List.mem_cons, List.not_mem_nil, List.length_cons, List.length_nil, or_false, false_or, or_true, true_or, and_true, true_and, and_false, false_and, if_true, if_false, Option.some.injEq, Prod.mk.injEq, and_assoc, exists_and_left, exists_eq_left, exists_eq_left', exists_const, nw_ks, nw_f4, nw_fvs, nw_some, Nat.reduceAdd, nw_sz_I, nw_kd_I, nw_ln_I, nw_rf_I, nw_L_I, nw_I_I, nw_sz_L, nw_kd_L, nw_ln_L, nw_rf_L, nw_I_L, nw_L_L, nw_ob_I, nw_ob_L, nw_obr_I, nw_obr_L, nI_add, nw_b0, nw_b1, nw_b01, not_false_eq_true, not_true_eq_false, false_implies, true_implies, Classical.not_not, nw_i10, decide_eq_false_iff_not, decide_eq_true_eq, ne_eq, Option.toList_some, Option.toList_none, List.cons_append, List.nil_append, reduceIte, Nat.reduceEqDiff, Nat.reduceLT, Nat.reduceLeDiff, Nat.reduceSub, Nat.reduceMul, reduceCtorEq, ↓nwx_iconst, ↓nwx_iload_n, ↓nwx_istore, dmMo_fits_0, rmMo_fits]; try simp (disch := omega) only [nw_b0, nw_b1, nw_ilt, nw_ile, nw_ieq, nw_icl, nw_iin, nI_add, and_true, true_and, and_false, false_and, not_false_eq_true, not_true_eq_false, false_implies, true_implies, Classical.not_not, ne_eq, reduceIte, Nat.reduceEqDiff, Nat.reduceLT, Nat.reduceLeDiff, Nat.reduceAdd, Nat.reduceSub, Nat.reduceMul])
  exact loop (e - b) 0 (by omega) (nI 1) (fun p hp => by
    have e1 : ∀ i, i < 32 → bt (nI 1) i = decide (i = 0) := by decide +kernel
    rw [e1 p (by omega)]
    rfl) _ _ _ _ _
