/-! the start: all cells stand, and the relation holds -/
section CZ
variable {n : Nat} {cv : Int32} {w u0 u v : nw_W}
theorem nw_start_ok (n2 : 2 ≤ n) (n4 : n ≤ 4) (hA : nw_PA n 41 cv w u0) (hu : u = nw_setR (nw_new u0 17 6) 1 (va_up (nw_rf (nw_new u0 17 6) 1) 3 (some (nw_A n + 42)))) (hM : nw_PM (nw_A n + 40) (nw_new u 7 0) v) : nw_Ok n v ∧ nw_same w v 0 ∧ (nw_I v 1 = upd (fun _ => 0) 0 cv) ∧ (∀ s, s < n → nw_SZ n (nw_S n s 0) v) ∧ (∀ j, j < 41 → nw_I v (nw_A n + 1 + j) = fun _ => 0) ∧ nw_L v (nw_A n + 42) = fun _ => 0 := by
  obtain ⟨a1, a2, a3, a4, a5, a6, a6', a7, a8, a9, a10, a11, a12⟩ := hA
  obtain ⟨m1, m2, m3, m4, m5, m6, m7, m8⟩ := hM
  have hA3 : nw_A n = 3 + n * (20 + 2 * n) := rfl
  have zu : nw_sz u = nw_A n + 42 := by
    rw [hu]
    show nw_sz u0 + 1 = _
    omega
  have sm0 : ∀ x, x < nw_A n + 42 → x ≠ 1 → nw_same u0 u x := fun x hx h1 => by
    rw [hu]
    exact nw_same_R (nw_same_n (nw_same_r u0 x) (by omega)) h1
  have smu : ∀ x, x ≤ nw_A n + 42 → nw_same u v x := fun x hx => nw_same_t (nw_same_n (k := 7) (l := 0) (nw_same_r u x) (by omega)) (m2 x (by omega))
  have sm : ∀ x, x < nw_A n + 42 → x ≠ 1 → nw_same u0 v x := fun x hx h1 => nw_same_t (sm0 x hx h1) (smu x (by omega))
  have q1 := smu 1 (by omega)
  have q42 := smu (nw_A n + 42) (Nat.le_refl _)
  have s1 := nw_same_n (k := 17) (l := 6) (nw_same_r u0 1) (by omega)
  have ez : nw_sz u0 + 1 = nw_A n + 42 := by omega
  have u1 : nw_kd u 1 = 6 ∧ nw_rf u 1 = va_up (nw_rf u0 1) 3 (some (nw_A n + 42)) ∧ nw_I u 1 = upd (fun _ => 0) 0 cv := by
    rw [hu]
    refine ⟨s1.1.trans a3, ?_, s1.2.2.2.1.trans a7⟩
    rw [nw_rf_R, va_up_self, s1.2.2.1]
  have u42 : nw_kd u (nw_A n + 42) = 17 ∧ nw_ln u (nw_A n + 42) = 6 ∧ nw_L u (nw_A n + 42) = fun _ => 0 := by
    rw [hu]
    refine ⟨?_, ?_, ?_⟩
    · rw [nw_kd_R, nw_kd_n, ez, va_up_self]
    · rw [nw_ln_R, nw_ln_n, ez, va_up_self]
    · rw [nw_L_R, nw_L_n, ez, va_up_self]
  have sz : ∀ s, s < n → nw_SZ n (nw_S n s 0) v := fun s hs => nw_SZ_t (a9 s hs) (fun k hk => by
    have hl := nw_S_lt (n := n) (s := s) (k := k) hs hk
    have h3 := nw_S_3 n s k
    exact sm (nw_S n s k) (by omega) (by omega))
  have ob : ∀ x c, nw_kd v x = c → 1 ≤ x → x ≤ nw_A n + 67 → nw_ob v x c := fun x c h h1 h2 => ⟨h, h1, by omega⟩
  refine ⟨⟨n2, n4, ?_, ?_, fun s hs => ?_⟩, nw_same_t a2 (sm 0 (by omega) (by omega)), q1.2.2.2.1.trans u1.2.2, sz, fun j hj => ?_, q42.2.2.2.2.trans u42.2.2⟩
  · refine ⟨ob 1 6 (q1.1.trans u1.1) (by omega) (by omega), ?_, ?_, ?_, ob 2 20 ((sm 2 (by omega) (by omega)).1.trans a4) (by omega) (by omega), (sm 2 (by omega) (by omega)).2.1.trans a5, ob (nw_A n) 21 ((sm (nw_A n) (by omega) (by omega)).1.trans a10) (by omega) (by omega), (sm (nw_A n) (by omega) (by omega)).2.1.trans a11, ob (nw_A n + 42) 17 (q42.1.trans u42.1) (by omega) (by omega), q42.2.1.trans u42.2.1, fun s hs => ?_, fun i hi => ⟨?_, ob (nw_A n + 1 + i) 0 ((sm (nw_A n + 1 + i) (by omega) (by omega)).1.trans (a12 i hi).2.1) (by omega) (by omega)⟩⟩
    · rw [q1.2.2.1, u1.2.1, va_up_ne _ _ (by decide)]
      exact a6
    · rw [q1.2.2.1, u1.2.1, va_up_ne _ _ (by decide)]
      exact a6'
    · rw [q1.2.2.1, u1.2.1, va_up_self]
    · rw [(sm 2 (by omega) (by omega)).2.2.1]
      exact a8 s hs
    · rw [(sm (nw_A n) (by omega) (by omega)).2.2.1]
      exact (a12 i hi).1
  · have kk : ∀ f, 4 ≤ f → f < 28 → nw_ob v (nw_m n f) (nw_kM f) ∧ nw_ln v (nw_m n f) = nw_lM f := fun f f1 f2 => ⟨ob (nw_A n + 40 + f) _ (m5 f f1 f2).1 (by omega) (by omega), (m5 f f1 f2).2⟩
    refine ⟨ob (nw_A n + 40 + 3) _ m3 (by omega) (by omega), fun f f1 f2 => m4 f f1 f2, kk 4 (by omega) (by omega), kk 5 (by omega) (by omega), kk 6 (by omega) (by omega), kk 7 (by omega) (by omega), kk 8 (by omega) (by omega), kk 9 (by omega) (by omega), kk 10 (by omega) (by omega), kk 11 (by omega) (by omega), kk 12 (by omega) (by omega), kk 13 (by omega) (by omega), kk 14 (by omega) (by omega), kk 15 (by omega) (by omega), kk 16 (by omega) (by omega), kk 17 (by omega) (by omega), kk 18 (by omega) (by omega), kk 19 (by omega) (by omega), kk 20 (by omega) (by omega), fun f f1 f2 => ?_⟩
    rcases (show f = 21 ∨ f = 22 ∨ f = 23 ∨ f = 24 ∨ f = 25 ∨ f = 26 ∨ f = 27 by omega) with rfl | rfl | rfl | rfl | rfl | rfl | rfl
    · exact kk 21 (by omega) (by omega)
    · exact kk 22 (by omega) (by omega)
    · exact kk 23 (by omega) (by omega)
    · exact kk 24 (by omega) (by omega)
    · exact kk 25 (by omega) (by omega)
    · exact kk 26 (by omega) (by omega)
    · exact kk 27 (by omega) (by omega)
  · refine nw_SZ_ok (sz s hs) ?_
    have := nw_S_lt (n := n) (s := s) (k := 19 + 2 * n) hs (by omega)
    omega
  · rw [(sm (nw_A n + 1 + j) (by omega) (by omega)).2.2.2.1]
    exact (a12 j hj).2.2
theorem nw_ids_0 {p : Nat → Bool} (h : ∀ i, 1 ≤ i → i ≤ 40 → p i = false) : nw_ids p = 0 := by
  have h1 := nw_ids_mono (p := p) (q := fun _ => false) (fun i a b c => by rw [h i a b] at c; exact c)
  have h2 : nw_ids (fun _ => false) = 0 := by decide
  omega
theorem nw_start_J (n2 : 2 ≤ n) (n4 : n ≤ 4) (hA : nw_PA n 41 cv w u0) (hu : u = nw_setR (nw_new u0 17 6) 1 (va_up (nw_rf (nw_new u0 17 6) 1) 3 (some (nw_A n + 42)))) (hM : nw_PM (nw_A n + 40) (nw_new u 7 0) v) (h3 : nw_I v (nw_A n + 40 + 3) = upd (upd (fun _ => 0) 0 (nI n)) 1 cv) (h26 : ∀ j, j < 4 → nw_I v (nw_A n + 40 + 26) j = -1 ∧ nw_I v (nw_A n + 40 + 27) j = -1) : nw_J n v (nw_ref n v) 0 ∧ nw_same w v 0 := by
  obtain ⟨hO, hw, hI1, hS, hAr, hL⟩ := nw_start_ok n2 n4 hA hu hM
  obtain ⟨m1, m2, m3, m4, m5, m6, m7, m8⟩ := hM
  have z : ∀ f j, 4 ≤ f → f < 26 → (nw_ref n v).1 f j = nI 0 := fun f j f1 f2 => congrFun (m8 f f1 f2) j
  have e3 : (nw_ref n v).1 3 = upd (upd (fun _ => 0) 0 (nI n)) 1 cv := h3
  have e18 : ∀ j, (nw_ref n v).2 18 j = 0 := fun j => congrFun m7 j
  have e26 : ∀ j, j < 4 → (nw_ref n v).1 26 j = -1 ∧ (nw_ref n v).1 27 j = -1 := h26
  generalize nw_ref n v = S at z e3 e18 e26
  refine ⟨⟨hO, ⟨fun l hl => ⟨0, by omega, z 20 l (by omega) (by omega)⟩, fun s hs => ⟨0, by omega, z 21 s (by omega) (by omega)⟩, fun i hi => ⟨0, by omega, z 8 i (by omega) (by omega)⟩⟩, ?_, fun i i1 i2 => ?_, fun s hs => ?_⟩, hw⟩
  · refine ⟨by rw [e3]; rfl, by rw [e3, hI1]; rfl, by rw [e3, hI1]; rfl, by rw [e3, hI1]; rfl, 0, by omega, by rw [e3]; rfl, fun g hg => absurd hg (by omega)⟩
  · unfold j_art
    rw [hAr i (by omega), z 9 i (by omega) (by omega), z 5 i (by omega) (by omega), z 6 i (by omega) (by omega), z 7 i (by omega) (by omega), z 8 i (by omega) (by omega)]
    exact ⟨rfl, rfl, rfl, rfl, rfl, Or.inl ⟨rfl, rfl, rfl⟩⟩
  · obtain ⟨h3', h4, h5, h6, h7, h8, h9, h10, h11, h12⟩ := hS s hs
    have c0 : ∀ k j, k < 20 + 2 * n → k ≠ 6 → k ≠ 0 → nw_c n v s k j = nI 0 := fun k j hk k6 k0 => congrFun (h8 k hk k6 k0) j
    have c6 : nw_c n v s 6 = upd (fun _ => 0) 3 (-1) := h9
    have c00 : nw_c n v s 0 = upd (upd (fun _ => 0) 10 (-1)) 11 (-1) := h12
    have cL : nw_L v (nw_S n s 18) = fun _ => 0 := h10
    have n01 : ¬ (nI 0 = nI 1) := by decide
    have ents : q_ents S s = 0 := nw_ids_0 (fun i _ _ => by rw [z 12 _ (by omega) (by omega)]; rfl)
    refine ⟨fun i i1 i2 => ?_, fun g hg => ?_, ?_, ?_, ?_, ?_, fun t ht => ?_, fun t ht => ?_⟩
    · rw [c0 4 i (by omega) (by omega) (by omega), c0 5 i (by omega) (by omega) (by omega), c0 16 i (by omega) (by omega) (by omega), c0 17 i (by omega) (by omega) (by omega), z 12 _ (by omega) (by omega), z 13 _ (by omega) (by omega), z 14 _ (by omega) (by omega), z 16 _ (by omega) (by omega)]
      exact ⟨rfl, rfl, rfl, rfl, ⟨0, by omega, rfl⟩, fun q => absurd q n01⟩
    · rw [c0 7 g (by omega) (by omega) (by omega), c0 8 g (by omega) (by omega) (by omega), z 10 _ (by omega) (by omega), z 11 _ (by omega) (by omega)]
      refine ⟨rfl, rfl, Int32.le_refl _, 0, Nat.le_refl _, rfl, fun i i1 i2 => ?_⟩
      rw [c0 (10 + g) i (by omega) (by omega) (by omega), z 17 _ (by omega) (by omega)]
      exact ⟨rfl, 0, Nat.le_refl _, rfl, fun _ => rfl⟩
    · unfold j_cnt
      rw [ents, c0 3 2 (by omega) (by omega) (by omega)]
      exact ⟨rfl, by omega⟩
    · unfold j_int
      rw [c6, z 21 s (by omega) (by omega)]
      exact ⟨rfl, Or.inl ⟨rfl, rfl⟩⟩
    · unfold j_sel
      rw [c00, (e26 s (by omega)).1, (e26 s (by omega)).2]
      exact ⟨rfl, rfl, Or.inl rfl, Or.inl rfl⟩
    · refine ⟨fun b hb => ⟨0, by omega, c0 2 b (by omega) (by omega) (by omega)⟩, fun i i1 i2 => ?_⟩
      rw [z 12 _ (by omega) (by omega), z 21 s (by omega) (by omega)]
      have n0i : ¬ nI 0 = nI i := by
        rw [nI_inj (by omega) (by omega)]
        omega
      exact ⟨fun q => absurd q n01, fun q => absurd q n0i, fun _ _ b hb => by rw [c0 2 b (by omega) (by omega) (by omega)]; exact n0i⟩
    · rw [cL, e18]
      exact ⟨rfl, Or.inl rfl, fun _ => rfl⟩
    · refine ⟨0, by omega, c0 (20 + 2 * t) 1 (by omega) (by omega) (by omega), z 20 _ (by omega) (by omega), rfl, List.nodup_nil, fun x hx => absurd hx List.not_mem_nil⟩
end CZ
