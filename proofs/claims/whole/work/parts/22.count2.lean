theorem nw_ids_eq {p q : Nat → Bool} (h : ∀ i, 1 ≤ i → i ≤ 40 → p i = q i) : nw_ids p = nw_ids q := nw_cnt_eq 40 (fun i hi => h (i + 1) (by omega) (by omega))
theorem nw_ids_dn {p q : Nat → Bool} {i : Nat} (h1 : 1 ≤ i) (h2 : i ≤ 40) (hp : p i = true) (hq : ∀ j, 1 ≤ j → j ≤ 40 → q j = if j = i then false else p j) : nw_ids q + 1 = nw_ids p := by
  have e : nw_ids q = nw_cnt (va_up (fun k => p (k + 1)) (i - 1) false) 40 := nw_cnt_eq 40 (fun k hk => by
    rw [hq (k + 1) (by omega) (by omega)]
    unfold va_up
    by_cases hki : k + 1 = i
    · rw [if_pos hki, if_pos (by omega)]
    · rw [if_neg hki, if_neg (by omega)])
  rw [e]
  exact nw_cnt_dn 40 (by omega) (by rw [show i - 1 + 1 = i by omega]; exact hp)
theorem nw_ids_up {p q : Nat → Bool} {i : Nat} (h1 : 1 ≤ i) (h2 : i ≤ 40) (hp : p i = false) (hq : ∀ j, 1 ≤ j → j ≤ 40 → q j = if j = i then true else p j) : nw_ids q = nw_ids p + 1 := by
  have e : nw_ids q = nw_cnt (va_up (fun k => p (k + 1)) (i - 1) true) 40 := nw_cnt_eq 40 (fun k hk => by
    rw [hq (k + 1) (by omega) (by omega)]
    unfold va_up
    by_cases hki : k + 1 = i
    · rw [if_pos hki, if_pos (by omega)]
    · rw [if_neg hki, if_neg (by omega)])
  rw [e]
  exact nw_cnt_up 40 (by omega) (by rw [show i - 1 + 1 = i by omega]; exact hp)
theorem nw_ids_le (p : Nat → Bool) : nw_ids p ≤ 40 := nw_cnt_le _ _
theorem nw_rb0 {p : Bool} {w : nw_W} (h : p = false) : nw_ri1 (nw_b p) w (some (.int (nI 0))) w := by
  subst h
  exact ⟨rfl, rfl⟩
theorem nw_rb1 {p : Bool} {w : nw_W} (h : p = true) : nw_ri1 (nw_b p) w (some (.int (nI 1))) w := by
  subst h
  exact ⟨rfl, rfl⟩
theorem nw_i10 : (nI 1 = nI 0) = False ∧ (nI 0 = nI 1) = False := ⟨eq_false (by decide), eq_false (by decide)⟩
