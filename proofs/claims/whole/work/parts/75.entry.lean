/-! an entry comes or changes its kind; what is received is lost -/
section NZ
variable {n B : Nat} {w : nw_W} {S : nw_Q}
/-- kinds have changed, but none from or to 'held' -/
theorem nw_J_kk {s : Nat} {w' : nw_W} {S' : nw_Q} (hJ : nw_J n w S B) (hs : s < n) (hch : nw_chg n s w w') (hI : ∀ k, k ≠ 3 → k ≠ 4 → k ≠ 5 → nw_c n w' s k = nw_c n w s k) (hL : nw_L w' (nw_S n s 18) = nw_L w (nw_S n s 18)) (hqc : q_chg s S S') (e : ∀ f, f ≠ 12 → f ≠ 13 → S'.1 f = S.1 f) (h1j : ∀ j, 1 ≤ j → j ≤ 40 → (S'.1 12 (41 * s + j) = nI 1 ↔ S.1 12 (41 * s + j) = nI 1)) (h4 : ∀ j, 1 ≤ j → j ≤ 40 → nw_c n w' s 4 j = S'.1 12 (41 * s + j) ∧ ∃ k, k < 5 ∧ S'.1 12 (41 * s + j) = nI k) (h5 : ∀ j, 1 ≤ j → j ≤ 40 → nw_c n w' s 5 j = S'.1 13 (41 * s + j)) (hcnt : j_cnt s (nw_c n w' s) S') (hint : j_int n s (nw_c n w' s) S') : nw_J n w' S' B ∧ nw_fm n w w' := by
  have hn4 := hJ.1.2.1
  obtain ⟨p1, p2, p3, p4, p5, p6, p7, p8⟩ := j_sv hJ hs
  have kp := q_chg_kp hqc
  have e' : ∀ f, f < 12 ∨ 13 < f → S'.1 f = S.1 f := fun f hf => e f (by omega) (by omega)
  obtain ⟨r1, r2, r3⟩ := hJ.2.1
  refine nw_J_q hJ hs (Nat.le_refl _) hch ⟨fun l hl => by rw [e' 20 (by omega)]; exact r1 l hl, fun t ht => by rw [e' 21 (by omega)]; exact r2 t ht, fun j hj => by rw [e' 8 (by omega)]; exact r3 j hj⟩ hqc ?_
  refine ⟨fun j j1 j2 => ?_, fun g hg => ?_, hcnt, hint, j_sel_c p5 (hI 0 (by omega) (by omega) (by omega)) (Nat.le_refl _) ⟨by rw [e' 26 (by omega)], by rw [e' 27 (by omega)]⟩, ?_, j_pat_c p7 hL (fun t _ => by rw [hqc.1]), j_bl_c p8 (fun t ht => ⟨hI _ (by omega) (by omega) (by omega), hI _ (by omega) (by omega) (by omega)⟩) (fun t _ => by rw [e' 20 (by omega)]) (fun t k _ _ => by rw [e' 19 (by omega)]) (fun j j1 j2 q => (h1j j j1 j2).mpr q)⟩
  · obtain ⟨a1, a2, a3, a4, a5, a6⟩ := p1 j j1 j2
    rw [hI 16 (by omega) (by omega) (by omega), hI 17 (by omega) (by omega) (by omega), e' 14 (by omega), e' 16 (by omega)]
    exact ⟨(h4 j j1 j2).1, h5 j j1 j2, a3, a4, (h4 j j1 j2).2, fun q => (kp j j1 j2 (a6 ((h1j j j1 j2).mp q))).1⟩
  · obtain ⟨a1, a2, a3, h, a4, a5, a6⟩ := p2 g hg
    rw [hI 7 (by omega) (by omega) (by omega), hI 8 (by omega) (by omega) (by omega), hI (10 + g) (by omega) (by omega) (by omega), e' 10 (by omega), e' 11 (by omega), e' 17 (by omega)]
    refine ⟨a1, a2, a3, h, a4, a5, fun j j1 j2 => ?_⟩
    obtain ⟨c1, k, c2, c3, c4⟩ := a6 j j1 j2
    exact ⟨c1, k, c2, c3, fun q => c4 (fun z => q ((h1j j j1 j2).mpr z))⟩
  · obtain ⟨o1, o2⟩ := p6
    rw [hI 2 (by omega) (by omega) (by omega)]
    refine ⟨o1, fun j j1 j2 => ?_⟩
    obtain ⟨a1, a2, a3⟩ := o2 j j1 j2
    rw [e' 15 (by omega), e' 21 (by omega), e' 23 (by omega)]
    exact ⟨fun q => j_blk_c (a1 ((h1j j j1 j2).mp q)) (by rw [e' 7 (by omega)]), fun q => j_blk_c (a2 q) (by rw [e' 7 (by omega)]), fun q q' => a3 (fun z => q ((h1j j j1 j2).mpr z)) q'⟩
theorem nw_J_k12 {s i K : Nat} {w' : nw_W} {S' : nw_Q} (hJ : nw_J n w S B) (hs : s < n) (i1 : 1 ≤ i) (i2 : i ≤ 40) (hn1 : S.1 12 (41 * s + i) ≠ nI 1) (hK1 : K ≠ 1) (hK5 : K < 5) (hch : nw_chg n s w w') (hI : ∀ k, k ≠ 3 → k ≠ 4 → k ≠ 5 → nw_c n w' s k = nw_c n w s k) (hL : nw_L w' (nw_S n s 18) = nw_L w (nw_S n s 18)) (h4 : nw_c n w' s 4 = upd (nw_c n w s 4) i (nI K)) (hqc : q_chg s S S') (e : ∀ f, f ≠ 12 → f ≠ 13 → S'.1 f = S.1 f) (e12 : S'.1 12 = upd (S.1 12) (41 * s + i) (nI K)) (h5 : ∀ j, 1 ≤ j → j ≤ 40 → nw_c n w' s 5 j = S'.1 13 (41 * s + j)) (hcnt : j_cnt s (nw_c n w' s) S') (hint : j_int n s (nw_c n w' s) S') : nw_J n w' S' B ∧ nw_fm n w w' := by
  have e12i : S'.1 12 (41 * s + i) = nI K := by rw [e12, pk_us]
  have e12j : ∀ j, j ≠ i → S'.1 12 (41 * s + j) = S.1 12 (41 * s + j) := fun j hj => by rw [e12, pk_un (by omega)]
  have hKn : nI K ≠ nI 1 := by rw [ne_eq, nI_inj (by omega) (by omega)]; exact hK1
  refine nw_J_kk hJ hs hch hI hL hqc e (fun j _ _ => ?_) (fun j j1 j2 => ?_) h5 hcnt hint
  · by_cases hji : j = i
    · rw [hji, e12i]
      exact ⟨fun q => absurd q hKn, fun q => absurd q hn1⟩
    · rw [e12j j hji]
  · obtain ⟨a1, -, -, -, a5, -⟩ := (j_sv hJ hs).1 j j1 j2
    rw [h4]
    by_cases hji : j = i
    · rw [hji, pk_us, e12i]
      exact ⟨rfl, K, hK5, rfl⟩
    · rw [pk_un hji, e12j j hji]
      exact ⟨a1, a5⟩
theorem nw_J_enter {s i K : Nat} {U : Int32} (hJ : nw_J n w S B) (hs : s < n) (i1 : 1 ≤ i) (i2 : i ≤ 40) (h12 : S.1 12 (41 * s + i) = nI 0) (h21 : S.1 21 s = nI 0) (hK : 1 < K) (hK5 : K < 5) : nw_J n (k_enter n s i (nI K) U w) (if q_ents S s < 24 then q_i (q_i S 12 (41 * s + i) (nI K)) 13 (41 * s + i) U else S) B ∧ nw_fm n w (k_enter n s i (nI K) U w) := by
  have hn4 := hJ.1.2.1
  obtain ⟨p1, p2, p3, p4, p5, p6, p7, p8⟩ := j_sv hJ hs
  obtain ⟨c1, c2⟩ := id p3
  have c1 : nw_I w (nw_S n s 3) 2 = nI (q_ents S s) := c1
  unfold k_enter
  rw [c1]
  by_cases he : q_ents S s < 24
  case neg =>
    rw [if_pos (by rw [nI_le' (by omega) (by omega)]; omega), if_neg he]
    exact ⟨hJ, nw_fm_r n w⟩
  rw [if_neg (by rw [nI_le' (by omega) (by omega)]; omega), if_pos he, nI_add]
  obtain ⟨w', hw'⟩ : ∃ w', w' = nw_setI (nw_setI (nw_setI w (nw_S n s 4) (upd (nw_I w (nw_S n s 4)) i (nI K))) (nw_S n s 5) (upd (nw_I w (nw_S n s 5)) i U)) (nw_S n s 3) (upd (nw_I w (nw_S n s 3)) 2 (nI (q_ents S s + 1))) := ⟨_, rfl⟩
  rw [← hw']
  have hI : ∀ k, k ≠ 3 → k ≠ 4 → k ≠ 5 → nw_c n w' s k = nw_c n w s k := fun k k3 k4 k5 => by
    show nw_I w' (nw_S n s k) = _
    rw [hw', nw_S_Ine k3, nw_S_Ine k5, nw_S_Ine k4]
    rfl
  have h3 : nw_c n w' s 3 = upd (nw_I w (nw_S n s 3)) 2 (nI (q_ents S s + 1)) := by
    show nw_I w' (nw_S n s 3) = _
    rw [hw', nw_S_Ieq]
  have h4 : nw_c n w' s 4 = upd (nw_c n w s 4) i (nI K) := by
    show nw_I w' (nw_S n s 4) = _
    rw [hw', nw_S_Ine (by decide), nw_S_Ine (by decide), nw_S_Ieq]
    rfl
  have h5 : nw_c n w' s 5 = upd (nw_c n w s 5) i U := by
    show nw_I w' (nw_S n s 5) = _
    rw [hw', nw_S_Ine (by decide), nw_S_Ieq]
    rfl
  have e12 : (q_i (q_i S 12 (41 * s + i) (nI K)) 13 (41 * s + i) U).1 12 = upd (S.1 12) (41 * s + i) (nI K) := rfl
  have hents : q_ents (q_i (q_i S 12 (41 * s + i) (nI K)) 13 (41 * s + i) U) s = q_ents S s + 1 := by
    refine nw_ids_up i1 i2 (decide_eq_false (by rw [h12]; decide)) (fun j j1 j2 => ?_)
    rw [e12]
    by_cases hji : j = i
    · rw [if_pos hji, hji, pk_us]
      exact decide_eq_true (by rw [nI_lt' (by omega) (by omega)]; omega)
    · rw [if_neg hji, pk_un (by omega)]
  refine nw_J_k12 (K := K) hJ hs i1 i2 (by rw [h12]; decide) (by omega) hK5 ?_ hI (by rw [hw']; rfl) h4 (q_chg_i (q_chg_i (q_chg_r s S) (by omega)) (by omega)) (fun f f1 f2 => by rw [q_i_1, if_neg f2, q_i_1, if_neg f1]) e12 (fun j j1 j2 => ?_) ?_ ?_
  · rw [hw']
    exact nw_chg_I (nw_chg_I (nw_chg_I (nw_chg_r n s w) (by omega) _) (by omega) _) (by omega) _
  · rw [h5]
    by_cases hji : j = i
    · rw [hji, pk_us]
      exact pk_us.symm
    · rw [pk_un hji]
      exact (p1 j j1 j2).2.1.trans (pk_un (by omega)).symm
  · unfold j_cnt
    rw [hents, h3, pk_us]
    exact ⟨rfl, by omega⟩
  · unfold j_int
    rw [hI 6 (by omega) (by omega) (by omega)]
    refine ⟨p4.1, Or.inl ⟨h21, ?_⟩⟩
    rcases p4.2 with ⟨-, q⟩ | ⟨j, j1, j2, q, -⟩
    · exact q
    · rw [h21, nI_inj (by omega) (by omega)] at q
      omega
theorem nw_J_cancel {s i : Nat} {w' : nw_W} (hJ : nw_J n w S B) (hs : s < n) (i1 : 1 ≤ i) (i2 : i ≤ 40) (h21 : S.1 21 s = nI 0) (hw : k_can n s i w none w') : nw_J n w' (q_cancel S s i) B ∧ nw_fm n w w' := by
  have hn4 := hJ.1.2.1
  obtain ⟨p1, p2, p3, p4, p5, p6, p7, p8⟩ := j_sv hJ hs
  obtain ⟨-, k1, k2, k3⟩ := hw
  obtain ⟨a1, -, -, -, ⟨K, K5, a5⟩, -⟩ := p1 i i1 i2
  have a1 : nw_I w (nw_S n s 4) i = S.1 12 (41 * s + i) := a1
  have c2 := p3.2
  rw [a1] at k1 k2 k3
  unfold q_cancel
  by_cases h1 : S.1 12 (41 * s + i) = nI 1
  · have h0 : ¬ S.1 12 (41 * s + i) = nI 0 := by rw [h1]; decide
    rw [if_neg (fun z => h0 z.1), if_pos h1]
    exact nw_J_rm hJ hs i1 i2 h1 (by omega) (by omega) (k1 h1)
  by_cases h0 : S.1 12 (41 * s + i) = nI 0
  · have g := nw_J_enter (K := 4) (U := nw_I w 1 5 + nw_I w 1 0) hJ hs i1 i2 h0 h21 (by omega) (by omega)
    rw [← k3 h0] at g
    by_cases he : q_ents S s < 24
    · rw [if_pos he] at g
      rw [if_neg (fun z => by omega), if_neg h1, if_pos h0, q_i_comm (f := 13) (by omega)]
      obtain ⟨-, g1, g2, -⟩ := hJ.2.2.1
      rw [g1, g2] at g
      exact g
    · rw [if_neg he] at g
      rw [if_pos ⟨h0, by omega⟩]
      exact g
  · rw [if_neg (fun z => h0 z.1), if_neg h1, if_neg h0]
    have hw := k2 h1 h0
    have h4 : nw_c n w' s 4 = upd (nw_c n w s 4) i (nI 4) := by
      show nw_I w' (nw_S n s 4) = _
      rw [hw, nw_S_Ieq]
      rfl
    have hI' : ∀ k, k ≠ 4 → nw_c n w' s k = nw_c n w s k := fun k k4 => by
      show nw_I w' (nw_S n s k) = _
      rw [hw, nw_S_Ine k4]
      rfl
    have hK0 : K ≠ 0 := fun z => h0 (by rw [a5, z])
    have hents : q_ents (q_i S 12 (41 * s + i) (nI 4)) s = q_ents S s := nw_ids_eq (fun j j1 j2 => decide_eq_decide.mpr (by
      show nI 0 < upd (S.1 12) (41 * s + i) (nI 4) (41 * s + j) ↔ _
      by_cases hji : j = i
      · rw [hji, pk_us, a5, nI_lt' (by omega) (by omega), nI_lt' (by omega) (by omega)]
        omega
      · rw [pk_un (by omega)]))
    refine nw_J_k12 (K := 4) hJ hs i1 i2 h1 (by omega) (by omega) (by rw [hw]; exact nw_chg_I (nw_chg_r n s w) (by omega) _) (fun k _ k4 _ => hI' k k4) (by rw [hw]; rfl) h4 (q_chg_i (q_chg_r s S) (by omega)) (fun f f1 f2 => by rw [q_i_1, if_neg f1]) rfl (fun j j1 j2 => ?_) ?_ ?_
    · rw [hI' 5 (by omega)]
      exact (p1 j j1 j2).2.1
    · unfold j_cnt
      rw [hents, hI' 3 (by omega)]
      exact p3
    · unfold j_int
      rw [hI' 6 (by omega)]
      refine ⟨p4.1, Or.inl ⟨h21, ?_⟩⟩
      rcases p4.2 with ⟨-, q⟩ | ⟨j, j1, j2, q, -⟩
      · exact q
      · rw [h21, nI_inj (by omega) (by omega)] at q
        omega
theorem nw_J_lose {t i : Nat} (hJ : nw_J n w S B) (hs : t < n) (i1 : 1 ≤ i) (i2 : i ≤ 40) (h21 : S.1 21 t = nI i) : nw_J n (nw_setI (nw_setI w (nw_S n t 2) (fun x => if x < 24 ∧ nw_I w (nw_S n t 2) x = nI i then nI 0 else nw_I w (nw_S n t 2) x)) (nw_S n t 6) (upd (upd (upd (upd (nw_I w (nw_S n t 6)) 0 (nI 0)) 1 (nI 0)) 2 (nI 0)) 3 (-1))) (q_i S 21 t (nI 0)) B ∧ nw_fm n w (nw_setI (nw_setI w (nw_S n t 2) (fun x => if x < 24 ∧ nw_I w (nw_S n t 2) x = nI i then nI 0 else nw_I w (nw_S n t 2) x)) (nw_S n t 6) (upd (upd (upd (upd (nw_I w (nw_S n t 6)) 0 (nI 0)) 1 (nI 0)) 2 (nI 0)) 3 (-1))) := by
  have hn4 := hJ.1.2.1
  obtain ⟨p1, p2, p3, p4, p5, p6, p7, p8⟩ := j_sv hJ hs
  obtain ⟨w', hw'⟩ : ∃ w', w' = nw_setI (nw_setI w (nw_S n t 2) (fun x => if x < 24 ∧ nw_I w (nw_S n t 2) x = nI i then nI 0 else nw_I w (nw_S n t 2) x)) (nw_S n t 6) (upd (upd (upd (upd (nw_I w (nw_S n t 6)) 0 (nI 0)) 1 (nI 0)) 2 (nI 0)) 3 (-1)) := ⟨_, rfl⟩
  obtain ⟨S', hS'⟩ : ∃ S', S' = q_i S 21 t (nI 0) := ⟨_, rfl⟩
  rw [← hw', ← hS']
  have hI : ∀ k, k ≠ 2 → k ≠ 6 → nw_c n w' t k = nw_c n w t k := fun k k2 k6 => by
    show nw_I w' (nw_S n t k) = _
    rw [hw', nw_S_Ine k6, nw_S_Ine k2]
    rfl
  have hI2 : nw_c n w' t 2 = fun x => if x < 24 ∧ nw_I w (nw_S n t 2) x = nI i then nI 0 else nw_I w (nw_S n t 2) x := by
    show nw_I w' (nw_S n t 2) = _
    rw [hw', nw_S_Ine (by decide), nw_S_Ieq]
  have hI6 : nw_c n w' t 6 = upd (upd (upd (upd (nw_I w (nw_S n t 6)) 0 (nI 0)) 1 (nI 0)) 2 (nI 0)) 3 (-1) := by
    show nw_I w' (nw_S n t 6) = _
    rw [hw', nw_S_Ieq]
  have e : ∀ f, f ≠ 21 → S'.1 f = S.1 f := fun f hf => by rw [hS', q_i_1, if_neg hf]
  have e21 : S'.1 21 t = nI 0 := by rw [hS']; exact pk_us
  have s12 := e 12 (by decide)
  have hqc : q_chg t S S' := by rw [hS']; exact q_chg_i (q_chg_r t S) (by omega)
  have kp := q_chg_kp hqc
  have hn1 : ¬ S.1 12 (41 * t + i) = nI 1 := fun q => by
    rcases p4.2 with ⟨a1, -⟩ | ⟨j, j1, j2, a1, -, -, -, -, a6, -⟩
    · rw [a1, nI_inj (by omega) (by omega)] at h21
      omega
    · rw [a1, nI_inj (by omega) (by omega)] at h21
      rw [h21, q, nI_inj (by omega) (by omega)] at a6
      omega
  refine nw_J_q hJ hs (Nat.le_refl _) (by rw [hw']; exact nw_chg_I (nw_chg_I (nw_chg_r n t w) (by omega) _) (by omega) _) (by rw [hS']; exact j_ref_i hJ.2.1 (Or.inr (Or.inr ⟨0, by omega, rfl⟩))) hqc ?_
  refine ⟨j_ent_c p1 ⟨hI 4 (by omega) (by omega), hI 5 (by omega) (by omega), hI 16 (by omega) (by omega), hI 17 (by omega) (by omega)⟩ (fun i _ _ => ⟨by rw [s12], by rw [e 13 (by decide)], by rw [e 14 (by decide)], by rw [e 16 (by decide)]⟩) kp, j_grp_c p2 ⟨hI 7 (by omega) (by omega), hI 8 (by omega) (by omega), fun g hg => hI (10 + g) (by omega) (by omega)⟩ (Nat.le_refl _) (fun g hg => ⟨by rw [e 10 (by decide)], by rw [e 11 (by decide)]⟩) (fun i g _ _ _ => by rw [e 17 (by decide)]) (fun i _ _ => Or.inr (Or.inr (by rw [s12]))) (fun i _ _ q => by rw [s12]; exact q), j_cnt_c p3 (hI 3 (by omega) (by omega)) (fun i _ _ => by rw [s12]), ?_, j_sel_c p5 (hI 0 (by omega) (by omega)) (Nat.le_refl _) ⟨by rw [e 26 (by decide)], by rw [e 27 (by decide)]⟩, ?_, j_pat_c p7 (by rw [hw']; rfl) (fun t _ => by rw [hqc.1]), j_bl_c p8 (fun t ht => ⟨hI _ (by omega) (by omega), hI _ (by omega) (by omega)⟩) (fun t _ => by rw [e 20 (by decide)]) (fun t k _ _ => by rw [e 19 (by decide)]) (fun i _ _ q => by rw [s12]; exact q)⟩
  · unfold j_int
    rw [e21, hI6]
    exact ⟨by rw [pk_un (by decide), pk_un (by decide), pk_un (by decide), pk_us], Or.inl ⟨rfl, by rw [pk_un (by decide), pk_un (by decide), pk_us]⟩⟩
  · obtain ⟨o1, o2⟩ := p6
    rw [hI2]
    have hb' : ∀ j, 1 ≤ j → j ≤ 40 → j ≠ i → ∀ b, b < 24 → ((if b < 24 ∧ nw_I w (nw_S n t 2) b = nI i then nI 0 else nw_I w (nw_S n t 2) b) = nI j ↔ nw_I w (nw_S n t 2) b = nI j) := fun j j1 j2 hji b hb => by
      by_cases hr : nw_I w (nw_S n t 2) b = nI i
      · rw [if_pos ⟨hb, hr⟩, hr, nI_inj (by omega) (by omega), nI_inj (by omega) (by omega)]
        omega
      · rw [if_neg (fun z => hr z.2)]
    refine ⟨fun b hb => ?_, fun j j1 j2 => ?_⟩
    · by_cases hr : nw_I w (nw_S n t 2) b = nI i
      · exact ⟨0, by omega, if_pos ⟨hb, hr⟩⟩
      · obtain ⟨j, j1, j2⟩ := o1 b hb
        exact ⟨j, j1, (if_neg (fun z => hr z.2)).trans j2⟩
    · obtain ⟨a1, a2, a3⟩ := o2 j j1 j2
      rw [s12, e 15 (by decide), e21, e 23 (by decide)]
      refine ⟨fun q => ?_, fun q => ?_, fun q _ b hb z => ?_⟩
      · have hji : j ≠ i := fun z => hn1 (by rw [← z]; exact q)
        obtain ⟨k', m', c1, c2, c3, c4, c5, c6⟩ := a1 q
        exact ⟨k', m', c1, by rw [e 7 (by decide)]; exact c2, c3, c4, c5, fun b hb => (hb' j j1 j2 hji b hb).trans (c6 b hb)⟩
      · rw [nI_inj (by omega) (by omega)] at q
        omega
      · have z : (if b < 24 ∧ nw_I w (nw_S n t 2) b = nI i then nI 0 else nw_I w (nw_S n t 2) b) = nI j := z
        by_cases hji : j = i
        · subst hji
          by_cases hr : nw_I w (nw_S n t 2) b = nI j
          · rw [if_pos ⟨hb, hr⟩, nI_inj (by omega) (by omega)] at z
            omega
          · rw [if_neg (fun y => hr y.2)] at z
            exact hr z
        · refine a3 q ?_ b hb ((hb' j j1 j2 hji b hb).mp z)
          rw [h21, ne_eq, nI_inj (by omega) (by omega)]
          exact fun y => hji y.symm
end NZ
