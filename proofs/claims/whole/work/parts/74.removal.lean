/-! an article leaves a server; an entry comes; what is received is lost -/
section NY
variable {n B : Nat} {w : nw_W} {S : nw_Q}
theorem q_remN_17 (S : nw_Q) (s i k : Nat) : ∀ G, (q_remN S s i G).1 17 k = if 6 * (41 * s + i) ≤ k ∧ k < 6 * (41 * s + i) + G then nI 0 else S.1 17 k
  | 0 => by rw [if_neg (by omega)]; rfl
  | G + 1 => by
    show (q_i (q_remN S s i G) 17 (6 * (41 * s + i) + G) (nI 0)).1 17 k = _
    by_cases h : k = 6 * (41 * s + i) + G
    · rw [if_pos (by omega), h]
      exact pk_us
    · rw [q_i_x (by omega), q_remN_17 S s i k G]
      by_cases h1 : 6 * (41 * s + i) ≤ k ∧ k < 6 * (41 * s + i) + G
      · rw [if_pos h1, if_pos (by omega)]
      · rw [if_neg h1, if_neg (by omega)]
theorem q_remN_chg (S : nw_Q) {s i : Nat} (hi : i ≤ 40) : ∀ G, G ≤ 6 → q_chg s S (q_remN S s i G)
  | 0, _ => q_chg_r s S
  | G + 1, hG => q_chg_i (q_remN_chg S hi G (by omega)) (by omega)
theorem q_remL_at {s i : Nat} (hn : n ≤ 4) (hq : ∀ t, t < n → ∃ q, q ≤ 24 ∧ S.1 20 (4 * s + t) = nI q) : ∀ T, T ≤ n → q_chg s S (q_remL S s i T) ∧ (∀ t, t < n → T ≤ t → (q_remL S s i T).1 20 (4 * s + t) = S.1 20 (4 * s + t) ∧ ∀ k, k < 24 → (q_remL S s i T).1 19 (24 * (4 * s + t) + k) = S.1 19 (24 * (4 * s + t) + k)) ∧ ∀ t, t < T → ∀ q, q ≤ 24 → S.1 20 (4 * s + t) = nI q → ∃ c, c ≤ q ∧ (q_remL S s i T).1 20 (4 * s + t) = nI c ∧ nw_pre (fun k => (q_remL S s i T).1 19 (24 * (4 * s + t) + k)) c = nw_out (nI i) (nw_pre (fun k => S.1 19 (24 * (4 * s + t) + k)) q)
  | 0, _ => ⟨q_chg_r s S, fun _ _ _ => ⟨rfl, fun _ _ => rfl⟩, fun t h => by omega⟩
  | T + 1, hT => by
    obtain ⟨h1, h2, h3⟩ := q_remL_at (i := i) hn hq T (by omega)
    obtain ⟨q, q1, q2⟩ := hq T (by omega)
    obtain ⟨e1, e2⟩ := h2 T (by omega) (Nat.le_refl _)
    have e20 : (q_remL S s i T).1 20 (4 * s + T) = nI q := e1.trans q2
    simp only [q_remL]
    refine ⟨q_chg_lv h1 (by omega) q1 e20, fun t ht hTt => ⟨(q_leaves_w (by omega)).trans (h2 t ht (by omega)).1, fun k hk => (q_leaves_x q1 e20 (by omega) (by omega)).trans ((h2 t ht (by omega)).2 k hk)⟩, fun t ht q' hq' h20 => ?_⟩
    by_cases htT : t = T
    · subst htT
      have hqq : q' = q := by
        rw [q2, nI_inj (by omega) (by omega)] at h20
        exact h20.symm
      subst hqq
      obtain ⟨c1, c2, -⟩ := q_lvF_ok ((q_remL S s i t).1 19) (24 * (4 * s + t)) (nI i) q'
      refine ⟨_, c1, by rw [q_leaves_20, e20, nI_clamp (by omega)], ?_⟩
      rw [q_leaves_19, e20, nI_clamp (by omega), c2]
      exact congrArg _ (nw_pre_eq q' (fun j hj => e2 j (by omega)))
    · obtain ⟨c, c1, c2, c3⟩ := h3 t (by omega) q' hq' h20
      refine ⟨c, c1, (q_leaves_w (by omega)).trans c2, ?_⟩
      rw [← c3]
      exact nw_pre_eq c (fun j hj => q_leaves_x q1 e20 (by omega) (by omega))
theorem nw_J_rm {s i K : Nat} {w' : nw_W} (hJ : nw_J n w S B) (hs : s < n) (i1 : 1 ≤ i) (i2 : i ≤ 40) (h12 : S.1 12 (41 * s + i) = nI 1) (hK : 1 < K) (hK5 : K < 5) (hw : nw_rmA n s i (nI K) w w') : nw_J n w' (q_i (q_remove S s i) 12 (41 * s + i) (nI K)) B ∧ nw_fm n w w' := by
  have hn4 := hJ.1.2.1
  have hg3 := j_g3 hJ
  obtain ⟨p1, p2, p3, p4, p5, p6, p7, p8⟩ := j_sv hJ hs
  obtain ⟨b1, b2, b3, b4⟩ := hw
  obtain ⟨z1, z2, z3, z4⟩ := nw_zr_ok n s i (nw_setI (nw_setI w (nw_S n s 4) (upd (nw_I w (nw_S n s 4)) i (nI K))) (nw_S n s 2) (fun b => if b < 24 ∧ nw_I w (nw_S n s 2) b = nI i then nI 0 else nw_I w (nw_S n s 2) b)) 6 (Nat.le_refl _)
  have hI0 : ∀ k, k < 20 → nw_c n w' s k = nw_I (nw_zr n s i (nw_setI (nw_setI w (nw_S n s 4) (upd (nw_I w (nw_S n s 4)) i (nI K))) (nw_S n s 2) (fun b => if b < 24 ∧ nw_I w (nw_S n s 2) b = nI i then nI 0 else nw_I w (nw_S n s 2) b)) 6) (nw_S n s k) := fun k hk => b3 _ (fun t ht => by rw [Ne, Ne, nw_Sk, nw_Sk]; omega)
  have hz : ∀ k, k < 10 ∨ 15 < k → nw_I (nw_zr n s i (nw_setI (nw_setI w (nw_S n s 4) (upd (nw_I w (nw_S n s 4)) i (nI K))) (nw_S n s 2) (fun b => if b < 24 ∧ nw_I w (nw_S n s 2) b = nI i then nI 0 else nw_I w (nw_S n s 2) b)) 6) (nw_S n s k) = nw_I (nw_setI (nw_setI w (nw_S n s 4) (upd (nw_I w (nw_S n s 4)) i (nI K))) (nw_S n s 2) (fun b => if b < 24 ∧ nw_I w (nw_S n s 2) b = nI i then nI 0 else nw_I w (nw_S n s 2) b)) (nw_S n s k) := fun k hk => z3 _ (fun g hg => by rw [Ne, nw_Sk]; omega)
  have hI : ∀ k, k < 20 → k ≠ 2 → k ≠ 4 → (k < 10 ∨ 15 < k) → nw_c n w' s k = nw_c n w s k := fun k k1 k2 k3 k4 => by
    rw [hI0 k k1, hz k k4, nw_S_Ine k2, nw_S_Ine k3]
    rfl
  have hI2 : nw_c n w' s 2 = fun b => if b < 24 ∧ nw_I w (nw_S n s 2) b = nI i then nI 0 else nw_I w (nw_S n s 2) b := by
    rw [hI0 2 (by omega), hz 2 (by omega), nw_S_Ieq]
  have hI4 : nw_c n w' s 4 = upd (nw_c n w s 4) i (nI K) := by
    rw [hI0 4 (by omega), hz 4 (by omega), nw_S_Ine (by decide), nw_S_Ieq]
    rfl
  have hIg : ∀ g, g < 6 → nw_c n w' s (10 + g) = upd (nw_c n w s (10 + g)) i (nI 0) := fun g hg => by
    rw [hI0 _ (by omega), z4 g hg, nw_S_Ine (by omega), nw_S_Ine (by omega)]
    rfl
  have hq : ∀ t, t < n → ∃ q, q ≤ 24 ∧ (q_remN S s i 6).1 20 (4 * s + t) = nI q := fun t ht => by
    rw [q_remN_1 S s i (by decide)]
    exact hJ.2.1.1 _ (by omega)
  obtain ⟨r1, -, r3⟩ := q_remL_at (s := s) (i := i) hn4 hq n (Nat.le_refl _)
  have hrem : q_remove S s i = q_remL (q_remN S s i 6) s i n := by
    unfold q_remove
    rw [hg3, nI_clamp (by omega)]
  obtain ⟨S', hS'⟩ : ∃ S', S' = q_i (q_remove S s i) 12 (41 * s + i) (nI K) := ⟨_, rfl⟩
  rw [← hS']
  have hqc : q_chg s S S' := by
    rw [hS', hrem]
    exact q_chg_i (q_chg_t (q_remN_chg S i2 6 (Nat.le_refl _)) r1) (by omega)
  have e : ∀ f, f ≠ 12 → f ≠ 17 → f ≠ 19 → f ≠ 20 → S'.1 f = S.1 f := fun f h1 h2 h3 h4 => by
    rw [hS', q_i_1, if_neg h1]
    exact q_remove_1 h2 h3 h4
  have e12 : S'.1 12 = upd (S.1 12) (41 * s + i) (nI K) := by
    rw [hS', q_i_1, if_pos rfl, q_remove_1 (by decide) (by decide) (by decide)]
  have e12i : S'.1 12 (41 * s + i) = nI K := by rw [e12, pk_us]
  have e12j : ∀ j, j ≠ i → S'.1 12 (41 * s + j) = S.1 12 (41 * s + j) := fun j hj => by rw [e12, pk_un (by omega)]
  have e17 : ∀ j g, g < 6 → S'.1 17 (6 * (41 * s + j) + g) = if j = i then nI 0 else S.1 17 (6 * (41 * s + j) + g) := fun j g hg => by
    rw [hS', q_i_1, if_neg (by decide), hrem, q_remL_1 _ s i (by decide) (by decide), q_remN_17]
    by_cases hji : j = i
    · rw [if_pos (by omega), if_pos hji]
    · rw [if_neg (by omega), if_neg hji]
  have e1920 : ∀ f, f = 19 ∨ f = 20 → S'.1 f = (q_remL (q_remN S s i 6) s i n).1 f := fun f hf => by
    rw [hS', q_i_1, if_neg (by omega), hrem]
  have hents : q_ents S' s = q_ents S s := nw_ids_eq (fun j j1 j2 => decide_eq_decide.mpr (by
    by_cases hji : j = i
    · rw [hji, e12i, h12, nI_lt' (by omega) (by omega), nI_lt' (by omega) (by omega)]
      omega
    · rw [e12j j hji]))
  have kp := q_chg_kp hqc
  refine nw_J_q hJ hs (Nat.le_refl _) ⟨b1.trans z1, fun a ha => ⟨?_, ?_⟩⟩ ⟨fun l hl => ?_, fun s' hs' => ?_, fun j hj => ?_⟩ hqc ?_
  · rw [b3 a (fun t ht => ⟨ha _ (by omega), ha _ (by omega)⟩), z3 a (fun g hg => ha _ (by omega)), nw_I_I, va_up_ne _ _ (ha 2 (by omega)), nw_I_I, va_up_ne _ _ (ha 4 (by omega))]
  · rw [b2, z2]
    rfl
  · rw [e1920 20 (Or.inr rfl), ← hrem]
    exact q_remove_q hJ.2.1.1 (by omega) i hg3 hn4 l hl
  · rw [e 21 (by decide) (by decide) (by decide) (by decide)]
    exact hJ.2.1.2.1 s' hs'
  · rw [e 8 (by decide) (by decide) (by decide) (by decide)]
    exact hJ.2.1.2.2 j hj
  · have hn1 : nI K ≠ nI 1 := by rw [ne_eq, nI_inj (by omega) (by omega)]; omega
    have hn21 : S.1 21 s ≠ nI i := fun q => by
      rcases p4.2 with ⟨a1, -⟩ | ⟨j, j1, j2, a1, -, -, -, -, a6, -⟩
      · rw [a1, nI_inj (by omega) (by omega)] at q
        omega
      · rw [a1, nI_inj (by omega) (by omega)] at q
        rw [q, h12, nI_inj (by omega) (by omega)] at a6
        omega
    refine ⟨fun j j1 j2 => ?_, fun g hg => ?_, ?_, ?_, j_sel_c p5 (hI 0 (by omega) (by omega) (by omega) (by omega)) (Nat.le_refl _) ⟨by rw [e 26 (by decide) (by decide) (by decide) (by decide)], by rw [e 27 (by decide) (by decide) (by decide) (by decide)]⟩, ?_, j_pat_c p7 (by rw [b2, z2]; rfl) (fun t _ => by rw [hqc.1]), fun t ht => ?_⟩
    · obtain ⟨a1, a2, a3, a4, a5, a6⟩ := p1 j j1 j2
      rw [hI4, hI 5 (by omega) (by omega) (by omega) (by omega), hI 16 (by omega) (by omega) (by omega) (by omega), hI 17 (by omega) (by omega) (by omega) (by omega), e 13 (by decide) (by decide) (by decide) (by decide), e 14 (by decide) (by decide) (by decide) (by decide), e 16 (by decide) (by decide) (by decide) (by decide)]
      by_cases hji : j = i
      · subst hji
        rw [pk_us, e12i]
        exact ⟨rfl, a2, a3, a4, ⟨K, hK5, rfl⟩, fun q => absurd q hn1⟩
      · rw [pk_un hji, e12j j hji]
        exact ⟨a1, a2, a3, a4, a5, fun q => (kp j j1 j2 (a6 q)).1⟩
    · obtain ⟨a1, a2, a3, h, a4, a5, a6⟩ := p2 g hg
      rw [hI 7 (by omega) (by omega) (by omega) (by omega), hI 8 (by omega) (by omega) (by omega) (by omega), hIg g hg, e 10 (by decide) (by decide) (by decide) (by decide), e 11 (by decide) (by decide) (by decide) (by decide)]
      refine ⟨a1, a2, a3, h, a4, a5, fun j j1 j2 => ?_⟩
      rw [e17 j g hg]
      by_cases hji : j = i
      · rw [if_pos hji, hji, pk_us]
        exact ⟨rfl, 0, by omega, rfl, fun _ => rfl⟩
      · rw [if_neg hji, pk_un hji, e12j j hji]
        exact a6 j j1 j2
    · unfold j_cnt
      rw [hents, hI 3 (by omega) (by omega) (by omega) (by omega)]
      exact p3
    · unfold j_int
      rw [hents, hI 6 (by omega) (by omega) (by omega) (by omega), e 21 (by decide) (by decide) (by decide) (by decide), e 22 (by decide) (by decide) (by decide) (by decide), e 24 (by decide) (by decide) (by decide) (by decide), e 25 (by decide) (by decide) (by decide) (by decide)]
      refine ⟨p4.1, ?_⟩
      rcases p4.2 with q | ⟨j, j1, j2, a1, a2, a3, a4, a5, a6, a7⟩
      · exact Or.inl q
      · exact Or.inr ⟨j, j1, j2, a1, a2, a3, a4, (kp j j1 j2 a5).1, by rw [e12j j (fun z => hn21 (by rw [← z]; exact a1))]; exact a6, a7⟩
    · obtain ⟨o1, o2⟩ := p6
      rw [hI2]
      have hb' : ∀ j, 1 ≤ j → j ≤ 40 → j ≠ i → ∀ b, b < 24 → ((if b < 24 ∧ nw_I w (nw_S n s 2) b = nI i then nI 0 else nw_I w (nw_S n s 2) b) = nI j ↔ nw_I w (nw_S n s 2) b = nI j) := fun j j1 j2 hji b hb => by
        by_cases hr : nw_I w (nw_S n s 2) b = nI i
        · rw [if_pos ⟨hb, hr⟩, hr, nI_inj (by omega) (by omega), nI_inj (by omega) (by omega)]
          omega
        · rw [if_neg (fun z => hr z.2)]
      refine ⟨fun b hb => ?_, fun j j1 j2 => ?_⟩
      · by_cases hr : nw_I w (nw_S n s 2) b = nI i
        · exact ⟨0, by omega, if_pos ⟨hb, hr⟩⟩
        · obtain ⟨j, j1, j2⟩ := o1 b hb
          exact ⟨j, j1, (if_neg (fun z => hr z.2)).trans j2⟩
      · obtain ⟨a1, a2, a3⟩ := o2 j j1 j2
        rw [e 15 (by decide) (by decide) (by decide) (by decide), e 21 (by decide) (by decide) (by decide) (by decide), e 23 (by decide) (by decide) (by decide) (by decide)]
        by_cases hji : j = i
        · subst hji
          rw [e12i]
          refine ⟨fun q => absurd q hn1, fun q => absurd q hn21, fun _ _ b hb q => ?_⟩
          have q : (if b < 24 ∧ nw_I w (nw_S n s 2) b = nI j then nI 0 else nw_I w (nw_S n s 2) b) = nI j := q
          by_cases hr : nw_I w (nw_S n s 2) b = nI j
          · rw [if_pos ⟨hb, hr⟩, nI_inj (by omega) (by omega)] at q
            omega
          · rw [if_neg (fun z => hr z.2)] at q
            exact hr q
        · rw [e12j j hji]
          have bk : ∀ x, j_blk (nw_I w (nw_S n s 2)) S j x → j_blk (fun b => if b < 24 ∧ nw_I w (nw_S n s 2) b = nI i then nI 0 else nw_I w (nw_S n s 2) b) S' j x := fun x hx => by
            obtain ⟨k', m', c1, c2, c3, c4, c5, c6⟩ := hx
            exact ⟨k', m', c1, by rw [e 7 (by decide) (by decide) (by decide) (by decide)]; exact c2, c3, c4, c5, fun b hb => (hb' j j1 j2 hji b hb).trans (c6 b hb)⟩
          exact ⟨fun q => bk _ (a1 q), fun q => bk _ (a2 q), fun q q' b hb z => a3 q q' b hb ((hb' j j1 j2 hji b hb).mp z)⟩
    · obtain ⟨q, q1, q2, q3, q4, q5, q6⟩ := p8 t ht
      have w20 : ∀ k, 20 ≤ k → nw_I (nw_zr n s i (nw_setI (nw_setI w (nw_S n s 4) (upd (nw_I w (nw_S n s 4)) i (nI K))) (nw_S n s 2) (fun b => if b < 24 ∧ nw_I w (nw_S n s 2) b = nI i then nI 0 else nw_I w (nw_S n s 2) b)) 6) (nw_S n s k) = nw_I w (nw_S n s k) := fun k hk => by
        rw [hz k (by omega), nw_S_Ine (by omega), nw_S_Ine (by omega)]
      obtain ⟨c, c1, c2⟩ := b4 t ht q q1 (by rw [w20 _ (by omega)]; exact q2)
      rw [w20 _ (by omega)] at c2
      have q4 : nw_pre (nw_I w (nw_S n s (21 + 2 * t))) q = _ := q4
      have q5 : (nw_pre (nw_I w (nw_S n s (21 + 2 * t))) q).Nodup := q5
      have q6 : ∀ x ∈ nw_pre (nw_I w (nw_S n s (21 + 2 * t))) q, _ := q6
      obtain ⟨c', d1, d2, d3⟩ := r3 t ht q q1 (by rw [q_remN_1 S s i (by decide)]; exact q3)
      rw [q_remN_1 S s i (show 19 ≠ 17 by decide), ← q4] at d3
      have hcc : c' = c := by
        have a := congrArg List.length c2
        have b := congrArg List.length d3
        rw [nw_pre_len] at a b
        omega
      subst hcc
      have c2' : nw_pre (nw_c n w' s (21 + 2 * t)) c' = nw_out (nI i) (nw_pre (nw_I w (nw_S n s (21 + 2 * t))) q) := c2
      rw [e1920 19 (Or.inl rfl), e1920 20 (Or.inr rfl)]
      refine ⟨c', by omega, c1, d2, by rw [c2', d3], by rw [c2']; exact nw_out_nodup q5, fun x hx => ?_⟩
      rw [c2', nw_out_mem] at hx
      obtain ⟨j, j1, j2, j3, j4⟩ := q6 x hx.1
      exact ⟨j, j1, j2, j3, by rw [e12j j (fun z => hx.2 (by rw [j3, z]))]; exact j4⟩
end NY
