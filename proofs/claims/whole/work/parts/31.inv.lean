/-! where the cells lie behind the constructors: server s of n from place nw_S n s 0 on, the articles from nw_A n on, the reference's cells nw_m n f -/
def nw_S (n s k : Nat) : Nat := 3 + s * (20 + 2 * n) + k
def nw_A (n : Nat) : Nat := 3 + n * (20 + 2 * n)
def nw_m (n f : Nat) : Nat := nw_A n + 40 + f
theorem nw_Sk (n s k k' : Nat) : (nw_S n s k = nw_S n s k') = (k = k') := propext (by unfold nw_S; omega)
theorem nw_S_end {n s : Nat} (hs : s < n) : s * (20 + 2 * n) + (20 + 2 * n) ≤ n * (20 + 2 * n) := by
  have := Nat.mul_le_mul_right (20 + 2 * n) (show s + 1 ≤ n by omega)
  rw [Nat.add_mul, Nat.one_mul] at this
  exact this
theorem nw_S_lt {n s k : Nat} (hs : s < n) (hk : k < 20 + 2 * n) : nw_S n s k < nw_A n := by
  have := nw_S_end hs
  unfold nw_S nw_A
  omega
theorem nw_S_ne {n s t k k' : Nat} (h : s ≠ t) (hk : k < 20 + 2 * n) (hk' : k' < 20 + 2 * n) : nw_S n s k ≠ nw_S n t k' := by
  unfold nw_S
  rcases Nat.lt_or_gt_of_ne h with h1 | h1
  · have := Nat.mul_le_mul_right (20 + 2 * n) (show s + 1 ≤ t by omega)
    rw [Nat.add_mul, Nat.one_mul] at this
    omega
  · have := Nat.mul_le_mul_right (20 + 2 * n) (show t + 1 ≤ s by omega)
    rw [Nat.add_mul, Nat.one_mul] at this
    omega
theorem nw_Sst {n s t k k' : Nat} (hk : k < 20 + 2 * n) (hk' : k' < 20 + 2 * n) : (nw_S n s k = nw_S n t k') = (s = t ∧ k = k') := propext (by
  by_cases h : s = t
  · subst h
    rw [nw_Sk]
    simp
  · constructor
    · intro e
      exact absurd e (nw_S_ne h hk hk')
    · rintro ⟨e, -⟩
      exact absurd e h)
theorem nw_S_3 (n s k : Nat) : 3 ≤ nw_S n s k := by unfold nw_S; omega
/-- the cells of server s -/
def nw_Sv (n : Nat) (w : nw_W) (s : Nat) : Prop :=
  nw_ob w (nw_S n s 0) 4 ∧ nw_rf w (nw_S n s 0) 0 = some (nw_S n s 1) ∧ nw_rf w (nw_S n s 0) 1 = some (nw_S n s 3) ∧ nw_rf w (nw_S n s 0) 2 = some (nw_S n s 6) ∧ nw_rf w (nw_S n s 0) 3 = some (nw_S n s 7) ∧ nw_rf w (nw_S n s 0) 4 = some (nw_S n s 8) ∧ nw_rf w (nw_S n s 0) 5 = some (nw_S n s 9) ∧ nw_rf w (nw_S n s 0) 6 = some (nw_S n s 16) ∧ nw_rf w (nw_S n s 0) 7 = some (nw_S n s 17) ∧ nw_rf w (nw_S n s 0) 8 = some (nw_S n s 18) ∧ nw_rf w (nw_S n s 0) 9 = some (nw_S n s 19) ∧
  nw_ob w (nw_S n s 1) 5 ∧ nw_rf w (nw_S n s 1) 0 = some (nw_S n s 2) ∧ nw_ob w (nw_S n s 2) 16 ∧ nw_ln w (nw_S n s 2) = 24 ∧
  nw_ob w (nw_S n s 3) 2 ∧ nw_rf w (nw_S n s 3) 0 = some (nw_S n s 4) ∧ nw_rf w (nw_S n s 3) 1 = some (nw_S n s 5) ∧ nw_ob w (nw_S n s 4) 16 ∧ nw_ln w (nw_S n s 4) = 41 ∧ nw_ob w (nw_S n s 5) 16 ∧ nw_ln w (nw_S n s 5) = 41 ∧
  nw_ob w (nw_S n s 6) 3 ∧ nw_ob w (nw_S n s 7) 16 ∧ nw_ln w (nw_S n s 7) = 6 ∧ nw_ob w (nw_S n s 8) 16 ∧ nw_ln w (nw_S n s 8) = 6 ∧
  nw_ob w (nw_S n s 9) 19 ∧ nw_ln w (nw_S n s 9) = 6 ∧ nw_ob w (nw_S n s 16) 16 ∧ nw_ln w (nw_S n s 16) = 41 ∧ nw_ob w (nw_S n s 17) 16 ∧ nw_ln w (nw_S n s 17) = 41 ∧ nw_ob w (nw_S n s 18) 17 ∧ nw_ln w (nw_S n s 18) = n ∧ nw_ob w (nw_S n s 19) 22 ∧ nw_ln w (nw_S n s 19) = n
def nw_Sg (n : Nat) (w : nw_W) (s g : Nat) : Prop := nw_rf w (nw_S n s 9) g = some (nw_S n s (10 + g)) ∧ nw_ob w (nw_S n s (10 + g)) 16 ∧ nw_ln w (nw_S n s (10 + g)) = 41
def nw_St (n : Nat) (w : nw_W) (s t : Nat) : Prop := nw_rf w (nw_S n s 19) t = some (nw_S n s (20 + 2 * t)) ∧ nw_ob w (nw_S n s (20 + 2 * t)) 1 ∧ nw_rf w (nw_S n s (20 + 2 * t)) 0 = some (nw_S n s (21 + 2 * t)) ∧ nw_ob w (nw_S n s (21 + 2 * t)) 16 ∧ nw_ln w (nw_S n s (21 + 2 * t)) = 24
def nw_Mf (n : Nat) (w : nw_W) : Prop :=
  nw_ob w (nw_m n 3) 7 ∧ (∀ f, 4 ≤ f → f < 28 → nw_rf w (nw_m n 3) f = some (nw_m n f)) ∧
  (nw_ob w (nw_m n 4) 17 ∧ nw_ln w (nw_m n 4) = 6) ∧ (nw_ob w (nw_m n 5) 16 ∧ nw_ln w (nw_m n 5) = 41) ∧ (nw_ob w (nw_m n 6) 16 ∧ nw_ln w (nw_m n 6) = 41) ∧ (nw_ob w (nw_m n 7) 16 ∧ nw_ln w (nw_m n 7) = 41) ∧ (nw_ob w (nw_m n 8) 16 ∧ nw_ln w (nw_m n 8) = 41) ∧ (nw_ob w (nw_m n 9) 18 ∧ nw_ln w (nw_m n 9) = 41) ∧
  (nw_ob w (nw_m n 10) 16 ∧ nw_ln w (nw_m n 10) = 24) ∧ (nw_ob w (nw_m n 11) 16 ∧ nw_ln w (nw_m n 11) = 24) ∧ (nw_ob w (nw_m n 12) 16 ∧ nw_ln w (nw_m n 12) = 164) ∧ (nw_ob w (nw_m n 13) 16 ∧ nw_ln w (nw_m n 13) = 164) ∧ (nw_ob w (nw_m n 14) 16 ∧ nw_ln w (nw_m n 14) = 164) ∧ (nw_ob w (nw_m n 15) 16 ∧ nw_ln w (nw_m n 15) = 164) ∧ (nw_ob w (nw_m n 16) 16 ∧ nw_ln w (nw_m n 16) = 164) ∧
  (nw_ob w (nw_m n 17) 16 ∧ nw_ln w (nw_m n 17) = 984) ∧ (nw_ob w (nw_m n 18) 17 ∧ nw_ln w (nw_m n 18) = 16) ∧ (nw_ob w (nw_m n 19) 16 ∧ nw_ln w (nw_m n 19) = 384) ∧ (nw_ob w (nw_m n 20) 16 ∧ nw_ln w (nw_m n 20) = 16) ∧
  (∀ f, 21 ≤ f → f < 28 → nw_ob w (nw_m n f) 16 ∧ nw_ln w (nw_m n f) = 4)
def nw_Cf (n : Nat) (w : nw_W) : Prop :=
  nw_ob w 1 6 ∧ nw_rf w 1 1 = some 2 ∧ nw_rf w 1 2 = some (nw_A n) ∧ nw_rf w 1 3 = some (nw_A n + 42) ∧ nw_ob w 2 20 ∧ nw_ln w 2 = n ∧ nw_ob w (nw_A n) 21 ∧ nw_ln w (nw_A n) = 41 ∧ nw_ob w (nw_A n + 42) 17 ∧ nw_ln w (nw_A n + 42) = 6 ∧
  (∀ s, s < n → nw_rf w 2 s = some (nw_S n s 0)) ∧ (∀ i, i < 41 → nw_rf w (nw_A n) i = some (nw_A n + 1 + i) ∧ nw_ob w (nw_A n + 1 + i) 0)
/-- all cells stand -/
def nw_Ok (n : Nat) (w : nw_W) : Prop := 2 ≤ n ∧ n ≤ 4 ∧ nw_Cf n w ∧ nw_Mf n w ∧ (∀ s, s < n → nw_Sv n w s ∧ (∀ g, g < 6 → nw_Sg n w s g) ∧ ∀ t, t < n → nw_St n w s t)
-- the reference's rows
def nw_mod (n : Nat) (w : nw_W) (S : nw_Q) : nw_W := (w.1, (fun a => if nw_A n + 43 ≤ a then S.1 (a - (nw_A n + 40)) else nw_I w a), fun a => if nw_A n + 43 ≤ a then S.2 (a - (nw_A n + 40)) else nw_L w a)
def nw_ref (n : Nat) (w : nw_W) : nw_Q := (fun f => nw_I w (nw_m n f), fun f => nw_L w (nw_m n f))
theorem nw_mod_I {n : Nat} {w : nw_W} {S : nw_Q} {f : Nat} (hf : 3 ≤ f) : nw_I (nw_mod n w S) (nw_m n f) = S.1 f := by
  unfold nw_mod nw_m
  show (if nw_A n + 43 ≤ nw_A n + 40 + f then S.1 (nw_A n + 40 + f - (nw_A n + 40)) else _) = _
  rw [if_pos (by omega), show nw_A n + 40 + f - (nw_A n + 40) = f by omega]
theorem nw_mod_L {n : Nat} {w : nw_W} {S : nw_Q} {f : Nat} (hf : 3 ≤ f) : nw_L (nw_mod n w S) (nw_m n f) = S.2 f := by
  unfold nw_mod nw_m
  show (if nw_A n + 43 ≤ nw_A n + 40 + f then S.2 (nw_A n + 40 + f - (nw_A n + 40)) else _) = _
  rw [if_pos (by omega), show nw_A n + 40 + f - (nw_A n + 40) = f by omega]
theorem nw_mod_sI {n : Nat} {w : nw_W} {S : nw_Q} {f : Nat} (hf : 3 ≤ f) (k : Nat) (x : Int32) : nw_setI (nw_mod n w S) (nw_m n f) (upd (S.1 f) k x) = nw_mod n w (q_i S f k x) := by
  unfold nw_setI nw_mod q_i
  refine Prod.ext rfl (Prod.ext (funext fun a => ?_) rfl)
  show va_up (fun a => if nw_A n + 43 ≤ a then S.1 (a - (nw_A n + 40)) else nw_I w a) (nw_m n f) (upd (S.1 f) k x) a = if nw_A n + 43 ≤ a then va_up S.1 f (upd (S.1 f) k x) (a - (nw_A n + 40)) else nw_I w a
  unfold va_up nw_m
  by_cases ha : a = nw_A n + 40 + f
  · rw [if_pos ha, if_pos (by omega), if_pos (by omega)]
  · rw [if_neg ha]
    by_cases hb : nw_A n + 43 ≤ a
    · simp only [if_pos hb]
      rw [if_neg (by omega)]
    · simp only [if_neg hb]
theorem nw_mod_sL {n : Nat} {w : nw_W} {S : nw_Q} {f : Nat} (hf : 3 ≤ f) (k : Nat) (x : Int64) : nw_setL (nw_mod n w S) (nw_m n f) (vp_updL (S.2 f) k x) = nw_mod n w (q_l S f k x) := by
  unfold nw_setL nw_mod q_l
  refine Prod.ext rfl (Prod.ext rfl (funext fun a => ?_))
  show va_up (fun a => if nw_A n + 43 ≤ a then S.2 (a - (nw_A n + 40)) else nw_L w a) (nw_m n f) (vp_updL (S.2 f) k x) a = if nw_A n + 43 ≤ a then va_up S.2 f (vp_updL (S.2 f) k x) (a - (nw_A n + 40)) else nw_L w a
  unfold va_up nw_m
  by_cases ha : a = nw_A n + 40 + f
  · rw [if_pos ha, if_pos (by omega), if_pos (by omega)]
  · rw [if_neg ha]
    by_cases hb : nw_A n + 43 ≤ a
    · simp only [if_pos hb]
      rw [if_neg (by omega)]
    · simp only [if_neg hb]
theorem nw_mod_ref (n : Nat) (w : nw_W) : nw_mod n w (nw_ref n w) = w := by
  refine Prod.ext rfl (Prod.ext (funext fun a => ?_) (funext fun a => ?_))
  · show (if nw_A n + 43 ≤ a then nw_I w (nw_m n (a - (nw_A n + 40))) else nw_I w a) = nw_I w a
    unfold nw_m
    split
    · rw [show nw_A n + 40 + (a - (nw_A n + 40)) = a by omega]
    · rfl
  · show (if nw_A n + 43 ≤ a then nw_L w (nw_m n (a - (nw_A n + 40))) else nw_L w a) = nw_L w a
    unfold nw_m
    split
    · rw [show nw_A n + 40 + (a - (nw_A n + 40)) = a by omega]
    · rfl
theorem nw_mod_ob (n : Nat) (w : nw_W) (S : nw_Q) (x c : Nat) : nw_ob (nw_mod n w S) x c = nw_ob w x c := rfl
theorem nw_mod_obr (n : Nat) (w : nw_W) (S : nw_Q) (x : Nat) : nw_obr (nw_mod n w S) x = nw_obr w x := rfl
theorem nw_mod_oba (n : Nat) (w : nw_W) (S : nw_Q) (x : Nat) : nw_oba (nw_mod n w S) x = nw_oba w x := rfl
theorem nw_mod_ln (n : Nat) (w : nw_W) (S : nw_Q) : nw_ln (nw_mod n w S) = nw_ln w := rfl
theorem nw_mod_rf (n : Nat) (w : nw_W) (S : nw_Q) : nw_rf (nw_mod n w S) = nw_rf w := rfl
