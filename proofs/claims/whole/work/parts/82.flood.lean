/-! NewsFlood's constructor -/
/-- a server as it is made, its cells from b on -/
def nw_SZ (n b : Nat) (u : nw_W) : Prop :=
  (∀ k, k < 20 → nw_kd u (b + k) = nw_kT k) ∧ (∀ k, 1 ≤ k → k < 20 → nw_ln u (b + k) = nw_lT n k) ∧
  (nw_rf u (b + 0) 0 = some (b + 1) ∧ nw_rf u (b + 0) 1 = some (b + 3) ∧ nw_rf u (b + 0) 2 = some (b + 6) ∧ nw_rf u (b + 0) 3 = some (b + 7) ∧ nw_rf u (b + 0) 4 = some (b + 8) ∧ nw_rf u (b + 0) 5 = some (b + 9) ∧ nw_rf u (b + 0) 6 = some (b + 16) ∧ nw_rf u (b + 0) 7 = some (b + 17) ∧ nw_rf u (b + 0) 8 = some (b + 18) ∧ nw_rf u (b + 0) 9 = some (b + 19)) ∧
  (nw_rf u (b + 1) 0 = some (b + 2) ∧ nw_rf u (b + 3) 0 = some (b + 4) ∧ nw_rf u (b + 3) 1 = some (b + 5) ∧ ∀ g, g < 6 → nw_rf u (b + 9) g = some (b + (10 + g))) ∧
  (∀ j, j < n → nw_rf u (b + 19) j = some (b + (20 + 2 * j))) ∧ (∀ k, k < 20 + 2 * n → k ≠ 6 → k ≠ 0 → nw_I u (b + k) = fun _ => 0) ∧ nw_I u (b + 6) = upd (fun _ => 0) 3 (-1) ∧ nw_L u (b + 18) = (fun _ => 0) ∧
  (∀ j, j < n → nw_kd u (b + (20 + 2 * j)) = 1 ∧ nw_rf u (b + (20 + 2 * j)) 0 = some (b + (21 + 2 * j)) ∧ nw_kd u (b + (21 + 2 * j)) = 16 ∧ nw_ln u (b + (21 + 2 * j)) = 24) ∧
  nw_I u (b + 0) = upd (upd (fun _ => 0) 10 (-1)) 11 (-1)
theorem nw_SZ_of {n b : Nat} {w u : nw_W} (h : nw_PS n b n w u) : nw_SZ n b (nw_setI u (b + 0) (upd (upd (fun _ => 0) 10 (-1)) 11 (-1))) := by
  obtain ⟨h1, h2, h3, h4, h5, h6, h7, h8, h9, h10, h11⟩ := h
  refine ⟨h3, h4, h5, h6, h7, fun k hk k6 k0 => ?_, ?_, h10, h11, ?_⟩
  · rw [nw_I_I, va_up_ne _ _ (by omega)]
    exact h8 k hk k6
  · rw [nw_I_I, va_up_ne _ _ (by omega)]
    exact h9
  · rw [nw_I_I, va_up_self]
theorem nw_SZ_t {n b : Nat} {u v : nw_W} (h : nw_SZ n b u) (hs : ∀ k, k < 20 + 2 * n → nw_same u v (b + k)) : nw_SZ n b v := by
  obtain ⟨h3, h4, h5, h6, h7, h8, h9, h10, h11, h12⟩ := h
  refine ⟨fun k hk => (hs k (by omega)).1.trans (h3 k hk), fun k k1 hk => (hs k (by omega)).2.1.trans (h4 k k1 hk), ?_, ?_, fun j hj => ?_, fun k hk k6 k0 => (hs k hk).2.2.2.1.trans (h8 k hk k6 k0), (hs 6 (by omega)).2.2.2.1.trans h9, (hs 18 (by omega)).2.2.2.2.trans h10, fun j hj => ?_, (hs 0 (by omega)).2.2.2.1.trans h12⟩
  · rw [(hs 0 (by omega)).2.2.1]
    exact h5
  · rw [(hs 1 (by omega)).2.2.1, (hs 3 (by omega)).2.2.1, (hs 9 (by omega)).2.2.1]
    exact h6
  · rw [(hs 19 (by omega)).2.2.1]
    exact h7 j hj
  · rw [(hs (20 + 2 * j) (by omega)).1, (hs (20 + 2 * j) (by omega)).2.2.1, (hs (21 + 2 * j) (by omega)).1, (hs (21 + 2 * j) (by omega)).2.1]
    exact h11 j hj
/-- such a server stands -/
theorem nw_SZ_ok {n s : Nat} {u : nw_W} (h : nw_SZ n (nw_S n s 0) u) (hz : nw_S n s (19 + 2 * n) ≤ nw_sz u) : nw_Sv n u s ∧ (∀ g, g < 6 → nw_Sg n u s g) ∧ ∀ t, t < n → nw_St n u s t := by
  obtain ⟨h3, h4, h5, h6, h7, h8, h9, h10, h11, h12⟩ := h
  have hp : ∀ k, k ≤ 19 + 2 * n → 1 ≤ nw_S n s k ∧ nw_S n s k ≤ nw_sz u := fun k hk => by
    unfold nw_S at hz ⊢
    omega
  have ob : ∀ k, k < 20 → nw_ob u (nw_S n s k) (nw_kT k) := fun k hk => ⟨h3 k hk, (hp k (by omega)).1, (hp k (by omega)).2⟩
  have ln : ∀ k, 1 ≤ k → k < 20 → nw_ln u (nw_S n s k) = nw_lT n k := fun k k1 hk => h4 k k1 hk
  refine ⟨⟨ob 0 (by omega), h5.1, h5.2.1, h5.2.2.1, h5.2.2.2.1, h5.2.2.2.2.1, h5.2.2.2.2.2.1, h5.2.2.2.2.2.2.1, h5.2.2.2.2.2.2.2.1, h5.2.2.2.2.2.2.2.2.1, h5.2.2.2.2.2.2.2.2.2, ob 1 (by omega), h6.1, ob 2 (by omega), ln 2 (by omega) (by omega), ob 3 (by omega), h6.2.1, h6.2.2.1, ob 4 (by omega), ln 4 (by omega) (by omega), ob 5 (by omega), ln 5 (by omega) (by omega), ob 6 (by omega), ob 7 (by omega), ln 7 (by omega) (by omega), ob 8 (by omega), ln 8 (by omega) (by omega), ob 9 (by omega), ln 9 (by omega) (by omega), ob 16 (by omega), ln 16 (by omega) (by omega), ob 17 (by omega), ln 17 (by omega) (by omega), ob 18 (by omega), ln 18 (by omega) (by omega), ob 19 (by omega), ln 19 (by omega) (by omega)⟩, fun g hg => ⟨h6.2.2.2 g hg, ?_, ?_⟩, fun t ht => ?_⟩
  · have := ob (10 + g) (by omega)
    rcases (show g = 0 ∨ g = 1 ∨ g = 2 ∨ g = 3 ∨ g = 4 ∨ g = 5 by omega) with rfl | rfl | rfl | rfl | rfl | rfl <;> exact this
  · have := ln (10 + g) (by omega) (by omega)
    rcases (show g = 0 ∨ g = 1 ∨ g = 2 ∨ g = 3 ∨ g = 4 ∨ g = 5 by omega) with rfl | rfl | rfl | rfl | rfl | rfl <;> exact this
  · obtain ⟨a1, a2, a3, a4⟩ := h11 t ht
    exact ⟨h7 t ht, ⟨a1, (hp _ (by omega)).1, (hp _ (by omega)).2⟩, a2, ⟨a3, (hp _ (by omega)).1, (hp _ (by omega)).2⟩, a4⟩
/-- how many servers, and the cutoff -/
def q_nn (x : Int32) : Nat := if x < nI 2 then 2 else if nI 4 < x then 4 else x.toNatClampNeg
def q_cut (y : Int32) : Int32 := if y < nI 1 then nI 1 else if nI 100 < y then nI 100 else y
theorem q_nn_ok (x : Int32) : 2 ≤ q_nn x ∧ q_nn x ≤ 4 ∧ nI (q_nn x) = if x < nI 2 then nI 2 else if nI 4 < x then nI 4 else x := by
  unfold q_nn
  by_cases h1 : x < nI 2
  · rw [if_pos h1, if_pos h1]
    exact ⟨by omega, by omega, rfl⟩
  · rw [if_neg h1, if_neg h1]
    by_cases h2 : nI 4 < x
    · rw [if_pos h2, if_pos h2]
      exact ⟨by omega, by omega, rfl⟩
    · rw [if_neg h2, if_neg h2]
      obtain ⟨k, hk, rfl⟩ := nw_iof (Int32.le_trans (by decide) (Int32.not_lt.mp h1))
      rw [nI_clamp (by omega)]
      have a := (nI_leI (by omega) (by omega)).mp (Int32.not_lt.mp h1)
      have b := (nI_leI (by omega) (by omega)).mp (Int32.not_lt.mp h2)
      exact ⟨a, b, rfl⟩
theorem nw_mm {x lo hi : Int32} (h : lo ≤ hi) : (if lo < (if x < hi then x else hi) then (if x < hi then x else hi) else lo) = if x < lo then lo else if hi < x then hi else x := by
  by_cases h1 : x < lo
  · rw [if_pos h1, if_pos (Int32.lt_of_lt_of_le h1 h), if_neg (Int32.not_lt.mpr (Int32.le_of_lt h1))]
  · rw [if_neg h1]
    by_cases h2 : hi < x
    · rw [if_pos h2, if_neg (Int32.not_lt.mpr (Int32.le_of_lt h2))]
      split
      · rfl
      · rename_i q
        exact Int32.le_antisymm h (Int32.not_lt.mp q)
    · rw [if_neg h2]
      by_cases h3 : x < hi
      · rw [if_pos h3]
        split
        · rfl
        · rename_i q
          exact Int32.le_antisymm (Int32.not_lt.mp h1) (Int32.not_lt.mp q)
      · rw [if_neg h3]
        have : x = hi := Int32.le_antisymm (Int32.not_lt.mp h2) (Int32.not_lt.mp h3)
        rw [this]
        split
        · rfl
        · rename_i q
          exact Int32.le_antisymm h (Int32.not_lt.mp q)
/-- s servers made -/
def nw_PN (n s : Nat) (y : Int32) (w u : nw_W) : Prop :=
  nw_sz u = 2 + s * (20 + 2 * n) ∧ nw_same w u 0 ∧ nw_kd u 1 = 6 ∧ nw_kd u 2 = 20 ∧ nw_ln u 2 = n ∧ nw_rf u 1 1 = some 2 ∧ nw_I u 1 = upd (fun _ => 0) 0 y ∧ (∀ j, j < s → nw_rf u 2 j = some (nw_S n j 0)) ∧ ∀ j, j < s → nw_SZ n (nw_S n j 0) u
/-- i articles made -/
def nw_PA (n i : Nat) (y : Int32) (w u : nw_W) : Prop :=
  nw_sz u = nw_A n + i ∧ nw_same w u 0 ∧ nw_kd u 1 = 6 ∧ nw_kd u 2 = 20 ∧ nw_ln u 2 = n ∧ nw_rf u 1 1 = some 2 ∧ nw_rf u 1 2 = some (nw_A n) ∧ nw_I u 1 = upd (fun _ => 0) 0 y ∧ (∀ j, j < n → nw_rf u 2 j = some (nw_S n j 0)) ∧ (∀ j, j < n → nw_SZ n (nw_S n j 0) u) ∧
  nw_kd u (nw_A n) = 21 ∧ nw_ln u (nw_A n) = 41 ∧ ∀ j, j < i → nw_rf u (nw_A n) j = some (nw_A n + 1 + j) ∧ nw_kd u (nw_A n + 1 + j) = 0 ∧ nw_I u (nw_A n + 1 + j) = fun _ => 0
theorem nw_S_s (n s : Nat) : nw_S n (s + 1) 0 = nw_S n s (20 + 2 * n) := by
  unfold nw_S
  rw [Nat.add_mul, Nat.one_mul]
  omega
theorem nw_PN_s {n s : Nat} {y : Int32} {w u u1 : nw_W} (h : nw_PN n s y w u) (h1 : nw_PS n (nw_S n s 0) n (nw_new u 4 0) u1) : nw_PN n (s + 1) y w (nw_setR (nw_setI u1 (nw_S n s 0 + 0) (upd (upd (fun _ => 0) 10 (-1)) 11 (-1))) 2 (va_up (nw_rf (nw_setI u1 (nw_S n s 0 + 0) (upd (upd (fun _ => 0) 10 (-1)) 11 (-1))) 2) s (some (nw_S n s 0 + 0)))) := by
  obtain ⟨a1, a2, a3, a4, a5, a6, a7, a8, a9⟩ := h
  have hb : nw_S n s 0 = 3 + s * (20 + 2 * n) := rfl
  have z1 := h1.1
  have sm0 : ∀ x, x < nw_S n s 0 → nw_same u (nw_setI u1 (nw_S n s 0 + 0) (upd (upd (fun _ => 0) 10 (-1)) 11 (-1))) x := fun x hx => nw_same_I (nw_same_t (nw_same_n (k := 4) (l := 0) (nw_same_r u x) (by omega)) (h1.2.1 x hx)) (by omega)
  have sm : ∀ x, x < nw_S n s 0 → x ≠ 2 → nw_same u (nw_setR (nw_setI u1 (nw_S n s 0 + 0) (upd (upd (fun _ => 0) 10 (-1)) 11 (-1))) 2 (va_up (nw_rf (nw_setI u1 (nw_S n s 0 + 0) (upd (upd (fun _ => 0) 10 (-1)) 11 (-1))) 2) s (some (nw_S n s 0 + 0)))) x := fun x hx h2 => nw_same_R (sm0 x hx) h2
  have q2 := sm0 2 (by omega)
  refine ⟨?_, nw_same_t a2 (sm 0 (by omega) (by omega)), (sm 1 (by omega) (by omega)).1.trans a3, q2.1.trans a4, q2.2.1.trans a5, ?_, (sm 1 (by omega) (by omega)).2.2.2.1.trans a7, fun j hj => ?_, fun j hj => ?_⟩
  · show nw_sz u1 = _
    rw [z1, hb, Nat.add_mul, Nat.one_mul]
    omega
  · rw [(sm 1 (by omega) (by omega)).2.2.1]
    exact a6
  · rw [nw_rf_R, va_up_self]
    by_cases hjs : j = s
    · rw [hjs, va_up_self]
      rfl
    · rw [va_up_ne _ _ hjs, q2.2.2.1]
      exact a8 j (by omega)
  · by_cases hjs : j = s
    · rw [hjs]
      exact nw_SZ_t (nw_SZ_of h1) (fun k hk => nw_same_R (nw_same_r _ _) (by omega))
    · refine nw_SZ_t (a9 j (by omega)) (fun k hk => sm _ ?_ ?_)
      · have h2 : j * (20 + 2 * n) + (20 + 2 * n) ≤ s * (20 + 2 * n) := by
          have := Nat.mul_le_mul_right (20 + 2 * n) (show j + 1 ≤ s by omega)
          rw [Nat.add_mul, Nat.one_mul] at this
          exact this
        unfold nw_S
        omega
      · unfold nw_S
        omega
theorem nw_PA_0 {n : Nat} {y : Int32} {w u : nw_W} (h : nw_PN n n y w u) : nw_PA n 0 y w (nw_setR (nw_new u 21 41) 1 (va_up (nw_rf (nw_new u 21 41) 1) 2 (some (nw_A n)))) := by
  obtain ⟨a1, a2, a3, a4, a5, a6, a7, a8, a9⟩ := h
  have hA : nw_A n = 3 + n * (20 + 2 * n) := rfl
  have ez : nw_sz u + 1 = nw_A n := by omega
  have sm0 : ∀ x, x < nw_A n → nw_same u (nw_new u 21 41) x := fun x hx => nw_same_n (nw_same_r u x) (by omega)
  have sm : ∀ x, x < nw_A n → x ≠ 1 → nw_same u (nw_setR (nw_new u 21 41) 1 (va_up (nw_rf (nw_new u 21 41) 1) 2 (some (nw_A n)))) x := fun x hx h1 => nw_same_R (sm0 x hx) h1
  have q1 := sm0 1 (by omega)
  refine ⟨?_, nw_same_t a2 (sm 0 (by omega) (by omega)), q1.1.trans a3, (sm 2 (by omega) (by omega)).1.trans a4, (sm 2 (by omega) (by omega)).2.1.trans a5, ?_, ?_, q1.2.2.2.1.trans a7, fun j hj => ?_, fun j hj => ?_, ?_, ?_, fun j hj => absurd hj (by omega)⟩
  · show nw_sz u + 1 = _
    omega
  · rw [nw_rf_R, va_up_self, va_up_ne _ _ (by decide), q1.2.2.1]
    exact a6
  · rw [nw_rf_R, va_up_self, va_up_self]
  · rw [(sm 2 (by omega) (by omega)).2.2.1]
    exact a8 j hj
  · refine nw_SZ_t (a9 j hj) (fun k hk => sm _ ?_ ?_)
    · exact nw_S_lt hj hk
    · unfold nw_S
      omega
  · rw [nw_kd_R, nw_kd_n, ez, va_up_self]
  · rw [nw_ln_R, nw_ln_n, ez, va_up_self]
theorem nw_PA_s {n i : Nat} {y : Int32} {w u : nw_W} (h : nw_PA n i y w u) : nw_PA n (i + 1) y w (nw_setR (nw_new u 0 0) (nw_A n) (va_up (nw_rf (nw_new u 0 0) (nw_A n)) i (some (nw_A n + 1 + i)))) := by
  obtain ⟨a1, a2, a3, a4, a5, a6, a6', a7, a8, a9, a10, a11, a12⟩ := h
  have hA : nw_A n = 3 + n * (20 + 2 * n) := rfl
  have ez : nw_sz u + 1 = nw_A n + 1 + i := by omega
  have sm0 : ∀ x, x < nw_A n + 1 + i → nw_same u (nw_new u 0 0) x := fun x hx => nw_same_n (nw_same_r u x) (by omega)
  have sm : ∀ x, x < nw_A n + 1 + i → x ≠ nw_A n → nw_same u (nw_setR (nw_new u 0 0) (nw_A n) (va_up (nw_rf (nw_new u 0 0) (nw_A n)) i (some (nw_A n + 1 + i)))) x := fun x hx h1 => nw_same_R (sm0 x hx) h1
  have qA := sm0 (nw_A n) (by omega)
  refine ⟨?_, nw_same_t a2 (sm 0 (by omega) (by omega)), (sm 1 (by omega) (by omega)).1.trans a3, (sm 2 (by omega) (by omega)).1.trans a4, (sm 2 (by omega) (by omega)).2.1.trans a5, ?_, ?_, (sm 1 (by omega) (by omega)).2.2.2.1.trans a7, fun j hj => ?_, fun j hj => ?_, qA.1.trans a10, qA.2.1.trans a11, fun j hj => ?_⟩
  · show nw_sz u + 1 = _
    omega
  · rw [(sm 1 (by omega) (by omega)).2.2.1]
    exact a6
  · rw [(sm 1 (by omega) (by omega)).2.2.1]
    exact a6'
  · rw [(sm 2 (by omega) (by omega)).2.2.1]
    exact a8 j hj
  · refine nw_SZ_t (a9 j hj) (fun k hk => ?_)
    have hl := nw_S_lt (n := n) (s := j) (k := k) hj hk
    exact sm (nw_S n j k) (by omega) (by omega)
  · by_cases hji : j = i
    · subst hji
      refine ⟨by rw [nw_rf_R, va_up_self, va_up_self], ?_, ?_⟩
      · rw [nw_kd_R, nw_kd_n, ez, va_up_self]
      · rw [nw_I_R, nw_I_n, ez, va_up_self]
    · obtain ⟨b1, b2, b3⟩ := a12 j (by omega)
      refine ⟨by rw [nw_rf_R, va_up_self, va_up_ne _ _ hji, qA.2.2.1]; exact b1, ?_, ?_⟩
      · rw [(sm (nw_A n + 1 + j) (by omega) (by omega)).1]
        exact b2
      · rw [(sm (nw_A n + 1 + j) (by omega) (by omega)).2.2.2.1]
        exact b3
section CN
variable {w : nw_W}
set_option maxRecDepth 20000 in
theorem c_Nf_init (x y : Int32) (hz : nw_sz w = 1) (hk : nw_kd w 1 = 6) (hI : nw_I w 1 = fun _ => 0) : V mNf_init 0 (nw_ent mNf_init [.ref 1, .int x, .int y]) [] w 160 2700 (fun r u => r = none ∧ ∃ u0, nw_PA (q_nn x) 41 (q_cut y) w u0 ∧ u = nw_setR (nw_new u0 17 6) 1 (va_up (nw_rf (nw_new u0 17 6) 1) 3 (some (nw_A (q_nn x) + 42)))) := by
  obtain ⟨n2, n4, hnn⟩ := q_nn_ok x
  generalize hn : q_nn x = n at n2 n4 hnn
  have hcn : (nI n).toNatClampNeg = n := nI_clamp (by omega)
  have hn0 : (nI n < 0) = False := eq_false (by
    rw [Int32.lt_iff_toInt_lt, nI_toInt (by omega)]
    show ¬ _ < (0 : Int)
    omega)
  generalize hQ : (fun (r : Option Value) (u : nw_W) => r = none ∧ ∃ u0, nw_PA n 41 (q_cut y) w u0 ∧ u = nw_setR (nw_new u0 17 6) 1 (va_up (nw_rf (nw_new u0 17 6) 1) 3 (some (nw_A n + 42)))) = Q
  have hA : nw_A n = 3 + n * (20 + 2 * n) := rfl
  have loop2 : ∀ d i, i + d = 41 → ∀ bc bs, d + 1 ≤ bc → 6 * d + 6 ≤ bs → ∀ u, nw_PA n i (q_cut y) w u → V mNf_init 78 [.ref 1, .int x, .int y, .int (nI n), .int (nI i)] [] u bc bs Q := by
    intro d
    induction d with
    | zero =>
      intro i hi bc bs hbc hbs u hu
      have hi41 : i = 41 := by omega
      subst hi41
      have z1 : nw_sz u + 1 = nw_A n + 42 := by
        have := hu.1
        omega
      have o1 : nw_ob (nw_new u 17 6) 1 6 := by
        have s := nw_same_n (k := 17) (l := 6) (nw_same_r u 1) (by omega)
        exact ⟨s.1.trans hu.2.2.1, by omega, by rw [nw_sz_n]; omega⟩
      (apply V_s1 [78] 16; simp only [nwx_0, nwx_S, nw_s1, nw_pII, nw_pA, nw_tIs, nw_vis, nw_jpx, Option.isSome_some, Option.getD_some, nw_popn, nw_rok, nw_wok, nw_isR, nw_cd, nw_at, nw_put, nw_nl0, nw_nlS, nw_no2s, nw_ft, nw_l01, nw_ak, nw_tsw, nw_flat, Value.category, List.mem_cons, List.not_mem_nil, List.length_cons, List.length_nil, or_false, false_or, or_true, true_or, and_true, true_and, and_false, false_and, if_true, if_false, Option.some.injEq, Prod.mk.injEq, and_assoc, exists_and_left, exists_eq_left, exists_eq_left', exists_const, nw_ks, nw_f4, nw_fvs, nw_some, Nat.reduceAdd, nw_sz_I, nw_kd_I, nw_ln_I, nw_rf_I, nw_L_I, nw_I_I, nw_sz_L, nw_kd_L, nw_ln_L, nw_rf_L, nw_I_L, nw_L_L, nw_ob_I, nw_ob_L, nw_obr_I, nw_obr_L, nI_add, nw_b0, nw_b1, nw_b01, not_false_eq_true, not_true_eq_false, false_implies, true_implies, Classical.not_not, nw_i10, decide_eq_false_iff_not, decide_eq_true_eq, ne_eq, Option.toList_some, Option.toList_none, List.cons_append, List.nil_append, reduceIte, Nat.reduceEqDiff, Nat.reduceLT, Nat.reduceLeDiff, Nat.reduceSub, Nat.reduceMul, reduceCtorEq, ↓nwx_aload_n, ↓nwx_bipush, ↓nwx_dup, ↓nwx_getfield, ↓nwx_if_icmp, ↓nwx_iload, ↓nwx_invokespecial, ↓nwx_new, ↓nwx_newarray, ↓nwx_putI, ↓nwx_putR, ↓nwx_return_, dmNf_init_1, rmNf_init, nw_nn, nw_nc, o1, z1]; try simp (disch := omega) only [nw_b0, nw_b1, nw_ilt, nw_ile, nw_ieq, nw_icl, nw_iin, nI_add, and_true, true_and, and_false, false_and, not_false_eq_true, not_true_eq_false, false_implies, true_implies, Classical.not_not, ne_eq, reduceIte, Nat.reduceEqDiff, Nat.reduceLT, Nat.reduceLeDiff, Nat.reduceAdd, Nat.reduceSub, Nat.reduceMul, nw_nn, nw_nc, o1, z1])
      refine ⟨by omega, by omega, ?_⟩
      rw [← hQ]
      exact ⟨rfl, u, hu, rfl⟩
    | succ d ih =>
      intro i hi bc bs hbc hbs u hu
      have z1 : nw_sz u + 1 = nw_A n + 1 + i := by
        have := hu.1
        omega
      have hci : (nI i).toNatClampNeg = i := nI_clamp (by omega)
      have o0 : nw_ob u 1 6 := ⟨hu.2.2.1, by omega, by omega⟩
      have r2 : nw_rf u 1 2 = some (nw_A n) := hu.2.2.2.2.2.2.1
      (apply V_s1 [78] 16; simp only [nwx_0, nwx_S, nw_s1, nw_pII, nw_pA, nw_tIs, nw_vis, nw_jpx, Option.isSome_some, Option.getD_some, nw_popn, nw_rok, nw_wok, nw_isR, nw_cd, nw_at, nw_put, nw_nl0, nw_nlS, nw_no2s, nw_ft, nw_l01, nw_ak, nw_tsw, nw_flat, Value.category, List.mem_cons, List.not_mem_nil, List.length_cons, List.length_nil, or_false, false_or, or_true, true_or, and_true, true_and, and_false, false_and, if_true, if_false, Option.some.injEq, Prod.mk.injEq, and_assoc, exists_and_left, exists_eq_left, exists_eq_left', exists_const, nw_ks, nw_f4, nw_fvs, nw_some, Nat.reduceAdd, nw_sz_I, nw_kd_I, nw_ln_I, nw_rf_I, nw_L_I, nw_I_I, nw_sz_L, nw_kd_L, nw_ln_L, nw_rf_L, nw_I_L, nw_L_L, nw_ob_I, nw_ob_L, nw_obr_I, nw_obr_L, nI_add, nw_b0, nw_b1, nw_b01, not_false_eq_true, not_true_eq_false, false_implies, true_implies, Classical.not_not, nw_i10, decide_eq_false_iff_not, decide_eq_true_eq, ne_eq, Option.toList_some, Option.toList_none, List.cons_append, List.nil_append, reduceIte, Nat.reduceEqDiff, Nat.reduceLT, Nat.reduceLeDiff, Nat.reduceSub, Nat.reduceMul, reduceCtorEq, ↓nwx_aload_n, ↓nwx_bipush, ↓nwx_dup, ↓nwx_getfield, ↓nwx_if_icmp, ↓nwx_iload, ↓nwx_invokespecial, ↓nwx_new, ↓nwx_newarray, ↓nwx_putI, ↓nwx_putR, ↓nwx_return_, dmNf_init_1, rmNf_init, o0, r2, nw_Ns, z1]; try simp (disch := omega) only [nw_b0, nw_b1, nw_ilt, nw_ile, nw_ieq, nw_icl, nw_iin, nI_add, and_true, true_and, and_false, false_and, not_false_eq_true, not_true_eq_false, false_implies, true_implies, Classical.not_not, ne_eq, reduceIte, Nat.reduceEqDiff, Nat.reduceLT, Nat.reduceLeDiff, Nat.reduceAdd, Nat.reduceSub, Nat.reduceMul, o0, r2, nw_Ns, z1])
      refine br_f (by omega) ⟨by omega, by omega, nw_do1 c_Ar_init (by omega) (by omega) ?_⟩
      rintro r w1 ⟨rfl, rfl⟩
      have o1 : nw_ob (nw_new u 0 0) (nw_A n) 21 := by
        have s := nw_same_n (k := 0) (l := 0) (nw_same_r u (nw_A n)) (by omega)
        exact ⟨s.1.trans hu.2.2.2.2.2.2.2.2.2.2.1, by omega, by rw [nw_sz_n]; omega⟩
      have o2 : nw_ob (nw_new u 0 0) (nw_A n + 1 + i) 0 := by
        refine ⟨?_, by omega, by rw [nw_sz_n]; omega⟩
        rw [nw_kd_n, z1, va_up_self]
      have o3 : nw_ln (nw_new u 0 0) (nw_A n) = 41 := by
        have s := nw_same_n (k := 0) (l := 0) (nw_same_r u (nw_A n)) (by omega)
        exact s.2.1.trans hu.2.2.2.2.2.2.2.2.2.2.2.1
      have nx := nw_PA_s hu
      generalize nw_new u 0 0 = u1 at o1 o2 o3 nx
      (apply V_s1 [78] 5; simp only [nwx_0, nwx_S, nw_s1, nw_pII, nw_pA, nw_tIs, nw_vis, nw_jpx, Option.isSome_some, Option.getD_some, nw_popn, nw_rok, nw_wok, nw_isR, nw_cd, nw_at, nw_put, nw_nl0, nw_nlS, nw_no2s, nw_ft, nw_l01, nw_ak, nw_tsw, nw_flat, Value.category, List.mem_cons, List.not_mem_nil, List.length_cons, List.length_nil, or_false, false_or, or_true, true_or, and_true, true_and, and_false, false_and, if_true, if_false, Option.some.injEq, Prod.mk.injEq, and_assoc, exists_and_left, exists_eq_left, exists_eq_left', exists_const, nw_ks, nw_f4, nw_fvs, nw_some, Nat.reduceAdd, nw_sz_I, nw_kd_I, nw_ln_I, nw_rf_I, nw_L_I, nw_I_I, nw_sz_L, nw_kd_L, nw_ln_L, nw_rf_L, nw_I_L, nw_L_L, nw_ob_I, nw_ob_L, nw_obr_I, nw_obr_L, nI_add, nw_b0, nw_b1, nw_b01, not_false_eq_true, not_true_eq_false, false_implies, true_implies, Classical.not_not, nw_i10, decide_eq_false_iff_not, decide_eq_true_eq, ne_eq, Option.toList_some, Option.toList_none, List.cons_append, List.nil_append, reduceIte, Nat.reduceEqDiff, Nat.reduceLT, Nat.reduceLeDiff, Nat.reduceSub, Nat.reduceMul, reduceCtorEq, ↓nwx_aastore, ↓nwx_goto, ↓nwx_iinc, dmNf_init_1, rmNf_init, o3, hci]; try simp (disch := omega) only [nw_b0, nw_b1, nw_ilt, nw_ile, nw_ieq, nw_icl, nw_iin, nI_add, and_true, true_and, and_false, false_and, not_false_eq_true, not_true_eq_false, false_implies, true_implies, Classical.not_not, ne_eq, reduceIte, Nat.reduceEqDiff, Nat.reduceLT, Nat.reduceLeDiff, Nat.reduceAdd, Nat.reduceSub, Nat.reduceMul, o3, hci])
      exact ⟨21, 0, Or.inr (Or.inl ⟨rfl, rfl⟩), o1, o2, by omega, ih (i + 1) (by omega) _ _ (by omega) (by omega) _ nx⟩
  have loop1 : ∀ d s, s + d = n → ∀ bc bs, 28 * d + 43 ≤ bc → 584 * d + 300 ≤ bs → ∀ u, nw_PN n s (q_cut y) w u → V mNf_init 39 [.ref 1, .int x, .int y, .int (nI n), .int (nI s)] [] u bc bs Q := by
    intro d
    induction d with
    | zero =>
      intro s hs bc bs hbc hbs u hu
      have hsn : s = n := by omega
      subst hsn
      have z1 : nw_sz u + 1 = nw_A s := by
        have := hu.1
        omega
      have o1 : nw_ob (nw_new u 21 41) 1 6 := by
        have s := nw_same_n (k := 21) (l := 41) (nw_same_r u 1) (by omega)
        exact ⟨s.1.trans hu.2.2.1, by omega, by rw [nw_sz_n]; omega⟩
      (apply V_s1 [39, 78] 18; simp only [nwx_0, nwx_S, nw_s1, nw_pII, nw_pA, nw_tIs, nw_vis, nw_jpx, Option.isSome_some, Option.getD_some, nw_popn, nw_rok, nw_wok, nw_isR, nw_cd, nw_at, nw_put, nw_nl0, nw_nlS, nw_no2s, nw_ft, nw_l01, nw_ak, nw_tsw, nw_flat, Value.category, List.mem_cons, List.not_mem_nil, List.length_cons, List.length_nil, or_false, false_or, or_true, true_or, and_true, true_and, and_false, false_and, if_true, if_false, Option.some.injEq, Prod.mk.injEq, and_assoc, exists_and_left, exists_eq_left, exists_eq_left', exists_const, nw_ks, nw_f4, nw_fvs, nw_some, Nat.reduceAdd, nw_sz_I, nw_kd_I, nw_ln_I, nw_rf_I, nw_L_I, nw_I_I, nw_sz_L, nw_kd_L, nw_ln_L, nw_rf_L, nw_I_L, nw_L_L, nw_ob_I, nw_ob_L, nw_obr_I, nw_obr_L, nI_add, nw_b0, nw_b1, nw_b01, not_false_eq_true, not_true_eq_false, false_implies, true_implies, Classical.not_not, nw_i10, decide_eq_false_iff_not, decide_eq_true_eq, ne_eq, Option.toList_some, Option.toList_none, List.cons_append, List.nil_append, reduceIte, Nat.reduceEqDiff, Nat.reduceLT, Nat.reduceLeDiff, Nat.reduceSub, Nat.reduceMul, reduceCtorEq, ↓nwx_aload_n, ↓nwx_anewarray, ↓nwx_bipush, ↓nwx_dup, ↓nwx_getfield, ↓nwx_iconst, ↓nwx_if_icmp, ↓nwx_iload, ↓nwx_iload_n, ↓nwx_invokespecial, ↓nwx_istore, ↓nwx_new, ↓nwx_putI, ↓nwx_putR, dmNf_init_0, rmNf_init, nw_nn, nw_nc, o1, z1]; try simp (disch := omega) only [nw_b0, nw_b1, nw_ilt, nw_ile, nw_ieq, nw_icl, nw_iin, nI_add, and_true, true_and, and_false, false_and, not_false_eq_true, not_true_eq_false, false_implies, true_implies, Classical.not_not, ne_eq, reduceIte, Nat.reduceEqDiff, Nat.reduceLT, Nat.reduceLeDiff, Nat.reduceAdd, Nat.reduceSub, Nat.reduceMul, nw_nn, nw_nc, o1, z1])
      refine br_t (Nat.le_refl _) ⟨by omega, by omega, loop2 41 0 rfl _ _ (by omega) (by omega) _ (nw_PA_0 hu)⟩
    | succ d ih =>
      intro s hs bc bs hbc hbs u hu
      have hb : nw_S n s 0 = 3 + s * (20 + 2 * n) := rfl
      have z1 : nw_sz u + 1 = nw_S n s 0 + 0 := by
        have := hu.1
        omega
      have hcs : (nI s).toNatClampNeg = s := nI_clamp (by omega)
      have o0 : nw_ob u 1 6 := ⟨hu.2.2.1, by omega, by omega⟩
      have r1 : nw_rf u 1 1 = some 2 := hu.2.2.2.2.2.1
      (apply V_s1 [39, 78] 18; simp only [nwx_0, nwx_S, nw_s1, nw_pII, nw_pA, nw_tIs, nw_vis, nw_jpx, Option.isSome_some, Option.getD_some, nw_popn, nw_rok, nw_wok, nw_isR, nw_cd, nw_at, nw_put, nw_nl0, nw_nlS, nw_no2s, nw_ft, nw_l01, nw_ak, nw_tsw, nw_flat, Value.category, List.mem_cons, List.not_mem_nil, List.length_cons, List.length_nil, or_false, false_or, or_true, true_or, and_true, true_and, and_false, false_and, if_true, if_false, Option.some.injEq, Prod.mk.injEq, and_assoc, exists_and_left, exists_eq_left, exists_eq_left', exists_const, nw_ks, nw_f4, nw_fvs, nw_some, Nat.reduceAdd, nw_sz_I, nw_kd_I, nw_ln_I, nw_rf_I, nw_L_I, nw_I_I, nw_sz_L, nw_kd_L, nw_ln_L, nw_rf_L, nw_I_L, nw_L_L, nw_ob_I, nw_ob_L, nw_obr_I, nw_obr_L, nI_add, nw_b0, nw_b1, nw_b01, not_false_eq_true, not_true_eq_false, false_implies, true_implies, Classical.not_not, nw_i10, decide_eq_false_iff_not, decide_eq_true_eq, ne_eq, Option.toList_some, Option.toList_none, List.cons_append, List.nil_append, reduceIte, Nat.reduceEqDiff, Nat.reduceLT, Nat.reduceLeDiff, Nat.reduceSub, Nat.reduceMul, reduceCtorEq, ↓nwx_aload_n, ↓nwx_anewarray, ↓nwx_bipush, ↓nwx_dup, ↓nwx_getfield, ↓nwx_iconst, ↓nwx_if_icmp, ↓nwx_iload, ↓nwx_iload_n, ↓nwx_invokespecial, ↓nwx_istore, ↓nwx_new, ↓nwx_putI, ↓nwx_putR, dmNf_init_0, rmNf_init, o0, r1, nw_Ns, z1]; try simp (disch := omega) only [nw_b0, nw_b1, nw_ilt, nw_ile, nw_ieq, nw_icl, nw_iin, nI_add, and_true, true_and, and_false, false_and, not_false_eq_true, not_true_eq_false, false_implies, true_implies, Classical.not_not, ne_eq, reduceIte, Nat.reduceEqDiff, Nat.reduceLT, Nat.reduceLeDiff, Nat.reduceAdd, Nat.reduceSub, Nat.reduceMul, o0, r1, nw_Ns, z1])
      refine br_f (by omega) ⟨by omega, by omega, nw_do1 (c_Se_init (b := nw_S n s 0) n4 (by omega) ?_ ?_ ?_) (by omega) (by omega) ?_⟩
      · rw [nw_sz_n]
        omega
      · rw [nw_kd_n, z1, va_up_self]
      · rw [nw_I_n, z1, va_up_self]
      rintro r w1 ⟨rfl, u1, hu1, rfl⟩
      have sm0 : ∀ x, x < nw_S n s 0 → nw_same u (nw_setI u1 (nw_S n s 0 + 0) (upd (upd (fun _ => 0) 10 (-1)) 11 (-1))) x := fun x hx => nw_same_I (nw_same_t (nw_same_n (k := 4) (l := 0) (nw_same_r u x) (by omega)) (hu1.2.1 x hx)) (by omega)
      have hz1 := hu1.1
      have o1 : nw_ob (nw_setI u1 (nw_S n s 0 + 0) (upd (upd (fun _ => 0) 10 (-1)) 11 (-1))) 2 20 := ⟨(sm0 2 (by omega)).1.trans hu.2.2.2.1, by omega, by rw [nw_sz_I, hz1]; omega⟩
      have o2 : nw_ob (nw_setI u1 (nw_S n s 0 + 0) (upd (upd (fun _ => 0) 10 (-1)) 11 (-1))) (nw_S n s 0 + 0) 4 := ⟨hu1.2.2.1 0 (by omega), by omega, by rw [nw_sz_I, hz1]; omega⟩
      have o3 : nw_ln (nw_setI u1 (nw_S n s 0 + 0) (upd (upd (fun _ => 0) 10 (-1)) 11 (-1))) 2 = n := (sm0 2 (by omega)).2.1.trans hu.2.2.2.2.1
      have nx := nw_PN_s hu hu1
      generalize nw_setI u1 (nw_S n s 0 + 0) (upd (upd (fun _ => 0) 10 (-1)) 11 (-1)) = u2 at o1 o2 o3 nx
      (apply V_s1 [39] 5; simp only [nwx_0, nwx_S, nw_s1, nw_pII, nw_pA, nw_tIs, nw_vis, nw_jpx, Option.isSome_some, Option.getD_some, nw_popn, nw_rok, nw_wok, nw_isR, nw_cd, nw_at, nw_put, nw_nl0, nw_nlS, nw_no2s, nw_ft, nw_l01, nw_ak, nw_tsw, nw_flat, Value.category, List.mem_cons, List.not_mem_nil, List.length_cons, List.length_nil, or_false, false_or, or_true, true_or, and_true, true_and, and_false, false_and, if_true, if_false, Option.some.injEq, Prod.mk.injEq, and_assoc, exists_and_left, exists_eq_left, exists_eq_left', exists_const, nw_ks, nw_f4, nw_fvs, nw_some, Nat.reduceAdd, nw_sz_I, nw_kd_I, nw_ln_I, nw_rf_I, nw_L_I, nw_I_I, nw_sz_L, nw_kd_L, nw_ln_L, nw_rf_L, nw_I_L, nw_L_L, nw_ob_I, nw_ob_L, nw_obr_I, nw_obr_L, nI_add, nw_b0, nw_b1, nw_b01, not_false_eq_true, not_true_eq_false, false_implies, true_implies, Classical.not_not, nw_i10, decide_eq_false_iff_not, decide_eq_true_eq, ne_eq, Option.toList_some, Option.toList_none, List.cons_append, List.nil_append, reduceIte, Nat.reduceEqDiff, Nat.reduceLT, Nat.reduceLeDiff, Nat.reduceSub, Nat.reduceMul, reduceCtorEq, ↓nwx_aastore, ↓nwx_goto, ↓nwx_iinc, dmNf_init_0, rmNf_init, o3, hcs]; try simp (disch := omega) only [nw_b0, nw_b1, nw_ilt, nw_ile, nw_ieq, nw_icl, nw_iin, nI_add, and_true, true_and, and_false, false_and, not_false_eq_true, not_true_eq_false, false_implies, true_implies, Classical.not_not, ne_eq, reduceIte, Nat.reduceEqDiff, Nat.reduceLT, Nat.reduceLeDiff, Nat.reduceAdd, Nat.reduceSub, Nat.reduceMul, o3, hcs])
      exact ⟨20, 4, Or.inl ⟨rfl, rfl⟩, o1, o2, by omega, ih (s + 1) (by omega) _ _ (by omega) (by omega) _ nx⟩
  have m1 := nw_mm (x := x) (show nI 2 ≤ nI 4 by decide)
  have m2 := nw_mm (x := y) (show nI 1 ≤ nI 100 by decide)
  rw [← hnn] at m1
  rw [emNf_init]
  (apply V_s1 [39] 23; simp only [nwx_0, nwx_S, nw_s1, nw_pII, nw_pA, nw_tIs, nw_vis, nw_jpx, Option.isSome_some, Option.getD_some, nw_popn, nw_rok, nw_wok, nw_isR, nw_cd, nw_at, nw_put, nw_nl0, nw_nlS, nw_no2s, nw_ft, nw_l01, nw_ak, nw_tsw, nw_flat, Value.category, List.mem_cons, List.not_mem_nil, List.length_cons, List.length_nil, or_false, false_or, or_true, true_or, and_true, true_and, and_false, false_and, if_true, if_false, Option.some.injEq, Prod.mk.injEq, and_assoc, exists_and_left, exists_eq_left, exists_eq_left', exists_const, nw_ks, nw_f4, nw_fvs, nw_some, Nat.reduceAdd, nw_sz_I, nw_kd_I, nw_ln_I, nw_rf_I, nw_L_I, nw_I_I, nw_sz_L, nw_kd_L, nw_ln_L, nw_rf_L, nw_I_L, nw_L_L, nw_ob_I, nw_ob_L, nw_obr_I, nw_obr_L, nI_add, nw_b0, nw_b1, nw_b01, not_false_eq_true, not_true_eq_false, false_implies, true_implies, Classical.not_not, nw_i10, decide_eq_false_iff_not, decide_eq_true_eq, ne_eq, Option.toList_some, Option.toList_none, List.cons_append, List.nil_append, reduceIte, Nat.reduceEqDiff, Nat.reduceLT, Nat.reduceLeDiff, Nat.reduceSub, Nat.reduceMul, reduceCtorEq, ↓nwx_aload_n, ↓nwx_anewarray, ↓nwx_bipush, ↓nwx_iconst, ↓nwx_iload_n, ↓nwx_invokespecial, ↓nwx_invokestatic, ↓nwx_istore, ↓nwx_istore_n, ↓nwx_putI, ↓nwx_putR, dmNf_init_0, rmNf_init, nw_ob, hz, hk, nw_sz_n, nw_kd_n, nw_kd_R, nw_rf_n, hcn, hn0, m1, m2]; try simp (disch := omega) only [nw_b0, nw_b1, nw_ilt, nw_ile, nw_ieq, nw_icl, nw_iin, nI_add, and_true, true_and, and_false, false_and, not_false_eq_true, not_true_eq_false, false_implies, true_implies, Classical.not_not, ne_eq, reduceIte, Nat.reduceEqDiff, Nat.reduceLT, Nat.reduceLeDiff, Nat.reduceAdd, Nat.reduceSub, Nat.reduceMul, nw_ob, hz, hk, nw_sz_n, nw_kd_n, nw_kd_R, nw_rf_n, hcn, hn0, m1, m2])
  refine ⟨by omega, by omega, by rw [va_up_ne _ _ (by decide)]; exact hk, loop1 n 0 (by omega) _ _ (by omega) (by omega) _ ?_⟩
  have k1 : va_up (nw_rf w) 2 (fun _ => none) 1 = nw_rf w 1 := va_up_ne _ _ (by decide)
  have ez : nw_sz (nw_setI w 1 (upd (nw_I w 1) 0 (q_cut y))) + 1 = 2 := by rw [nw_sz_I, hz]
  refine ⟨?_, ?_, ?_, ?_, ?_, ?_, ?_, fun j hj => absurd hj (by omega), fun j hj => absurd hj (by omega)⟩
  · show nw_sz w + 1 = _
    rw [hz]
    omega
  · exact nw_same_R (nw_same_n (nw_same_I (nw_same_r w 0) (by decide)) (by omega)) (by decide)
  · exact (nw_same_n (k := 20) (l := n) (nw_same_r (nw_setI w 1 (upd (nw_I w 1) 0 (q_cut y))) 1) (by omega)).1.trans hk
  · show nw_kd (nw_new (nw_setI w 1 (upd (nw_I w 1) 0 (q_cut y))) 20 n) 2 = 20
    rw [nw_kd_n, ez, va_up_self]
  · show nw_ln (nw_new (nw_setI w 1 (upd (nw_I w 1) 0 (q_cut y))) 20 n) 2 = n
    rw [nw_ln_n, ez, va_up_self]
  · rw [nw_rf_R, va_up_self, va_up_self]
  · have := (nw_same_n (k := 20) (l := n) (nw_same_r (nw_setI w 1 (upd (nw_I w 1) 0 (q_cut y))) 1) (by omega)).2.2.2.1
    refine (this.trans ?_)
    rw [nw_I_I, va_up_self, hI]
end CN
