/-! counting, runs of free blocks, lists in rows -/
def nw_cnt (p : Nat → Bool) : Nat → Nat
  | 0 => 0
  | k + 1 => nw_cnt p k + (if p k = true then 1 else 0)
theorem nw_cnt_le (p : Nat → Bool) : ∀ k, nw_cnt p k ≤ k
  | 0 => Nat.le_refl _
  | k + 1 => by
    have := nw_cnt_le p k
    simp only [nw_cnt]
    split <;> omega
theorem nw_cnt_eq {p q : Nat → Bool} : ∀ (k : Nat), (∀ i, i < k → p i = q i) → nw_cnt p k = nw_cnt q k
  | 0, _ => rfl
  | k + 1, h => by
    simp only [nw_cnt]
    rw [nw_cnt_eq k (fun i hi => h i (by omega)), h k (by omega)]
theorem nw_cnt_up {p : Nat → Bool} {i : Nat} : ∀ (k : Nat), i < k → p i = false → nw_cnt (va_up p i true) k = nw_cnt p k + 1
  | 0, h, _ => absurd h (by omega)
  | k + 1, h, hp => by
    simp only [nw_cnt]
    by_cases hi : i = k
    · subst hi
      rw [nw_cnt_eq i (fun j hj => va_up_ne p true (show j ≠ i by omega)), va_up_self, hp]
      rfl
    · rw [nw_cnt_up k (by omega) hp, va_up_ne p true (show k ≠ i by omega)]
      omega
theorem nw_cnt_dn {p : Nat → Bool} {i : Nat} : ∀ (k : Nat), i < k → p i = true → nw_cnt (va_up p i false) k + 1 = nw_cnt p k
  | 0, h, _ => absurd h (by omega)
  | k + 1, h, hp => by
    simp only [nw_cnt]
    by_cases hi : i = k
    · subst hi
      rw [nw_cnt_eq i (fun j hj => va_up_ne p false (show j ≠ i by omega)), va_up_self, hp]
      rfl
    · have := nw_cnt_dn k (by omega) hp
      rw [va_up_ne p false (show k ≠ i by omega)]
      omega
theorem nw_cnt_mono {p q : Nat → Bool} : ∀ (k : Nat), (∀ i, i < k → p i = true → q i = true) → nw_cnt p k ≤ nw_cnt q k
  | 0, _ => Nat.le_refl _
  | k + 1, h => by
    have ih := nw_cnt_mono k (fun i hi => h i (by omega))
    have hk := h k (by omega)
    simp only [nw_cnt]
    by_cases hp : p k = true
    · rw [if_pos hp, if_pos (hk hp)]; omega
    · rw [if_neg hp]; split <;> omega
/-- over the IDs 1 to 40 -/
def nw_ids (p : Nat → Bool) : Nat := nw_cnt (fun i => p (i + 1)) 40
-- runs
def nw_all (F : Nat → Bool) (c m : Nat) : Prop := ∀ b, c ≤ b → b < c + m → F b = true
def nw_rn (F : Nat → Bool) : Nat → Nat
  | 0 => 0
  | b + 1 => if F b = true then nw_rn F b + 1 else 0
theorem nw_rn_le (F : Nat → Bool) : ∀ b, nw_rn F b ≤ b
  | 0 => Nat.le_refl _
  | b + 1 => by
    have := nw_rn_le F b
    simp only [nw_rn]
    split <;> omega
theorem nw_rn_ok (F : Nat → Bool) : ∀ (b m : Nat), m ≤ nw_rn F b ↔ m ≤ b ∧ nw_all F (b - m) m
  | 0, m => ⟨fun h => ⟨h, fun b h1 h2 => absurd h2 (by simp only [nw_rn] at h; omega)⟩, fun h => h.1⟩
  | b + 1, m => by
    simp only [nw_rn]
    by_cases hF : F b = true
    · rw [if_pos hF]
      cases m with
      | zero => exact ⟨fun _ => ⟨by omega, fun b h1 h2 => absurd h2 (by omega)⟩, fun _ => by omega⟩
      | succ m =>
        rw [Nat.add_le_add_iff_right, nw_rn_ok F b m]
        constructor
        · rintro ⟨h1, h2⟩
          refine ⟨by omega, fun x a1 a2 => ?_⟩
          by_cases hx : x = b
          · rw [hx]; exact hF
          · exact h2 x (by omega) (by omega)
        · rintro ⟨h1, h2⟩
          exact ⟨by omega, fun x a1 a2 => h2 x (by omega) (by omega)⟩
    · rw [if_neg hF]
      constructor
      · intro h
        exact ⟨by omega, fun b h1 h2 => absurd h2 (by omega)⟩
      · rintro ⟨h1, h2⟩
        by_cases hm : m = 0
        · omega
        · exact absurd (h2 b (by omega) (by omega)) hF
/-- the lowest place from which on so many are free, or -1 -/
def nw_room (F : Nat → Bool) (m : Nat) (r : Int32) : Prop := (∃ c, c + m ≤ 24 ∧ r = nI c ∧ nw_all F c m ∧ ∀ d, d < c → ¬ nw_all F d m) ∨ (r = -1 ∧ ∀ c, c + m ≤ 24 → ¬ nw_all F c m)
theorem nw_room_un {F : Nat → Bool} {m : Nat} {r r' : Int32} (h : nw_room F m r) (h' : nw_room F m r') : r = r' := by
  rcases h with ⟨c, h1, h2, h3, h4⟩ | ⟨h1, h2⟩ <;> rcases h' with ⟨d, g1, g2, g3, g4⟩ | ⟨g1, g2⟩
  · rcases Nat.lt_trichotomy c d with x | x | x
    · exact absurd h3 (g4 c x)
    · rw [h2, g2, x]
    · exact absurd g3 (h4 d x)
  · exact absurd h3 (g2 c h1)
  · exact absurd g3 (h2 d g1)
  · rw [h1, g1]
/-- the length of the longest run -/
def nw_long (F : Nat → Bool) (r : Int32) : Prop := ∃ m, m ≤ 24 ∧ r = nI m ∧ (∃ c, c + m ≤ 24 ∧ nw_all F c m) ∧ ∀ c m', c + m' ≤ 24 → nw_all F c m' → m' ≤ m
theorem nw_long_un {F : Nat → Bool} {r r' : Int32} (h : nw_long F r) (h' : nw_long F r') : r = r' := by
  obtain ⟨m, h0, h1, ⟨c, h2, h3⟩, h4⟩ := h
  obtain ⟨n, g0, g1, ⟨d, g2, g3⟩, g4⟩ := h'
  rw [h1, g1, show m = n from Nat.le_antisymm (g4 c m h2 h3) (h4 d n g2 g3)]
/-- a run from a place on, as the reference counts it -/
def nw_run (F : Nat → Bool) (b m : Nat) : Prop := m ≤ 24 ∧ nw_all F b m ∧ (m < 24 → F (b + m) = false)
theorem nw_run_ge {F : Nat → Bool} {b m k : Nat} (h : nw_run F b m) (hk : k ≤ 24) : k ≤ m ↔ nw_all F b k := by
  obtain ⟨h1, h2, h3⟩ := h
  constructor
  · intro hkm x a1 a2
    exact h2 x a1 (by omega)
  · intro ha
    rcases Nat.lt_or_ge m k with hmk | hmk
    · have := ha (b + m) (by omega) (by omega)
      rw [h3 (by omega)] at this
      cases this
    · exact hmk
-- rows as lists
def nw_pre (f : Nat → Int32) : Nat → List Int32
  | 0 => []
  | n + 1 => nw_pre f n ++ [f n]
theorem nw_pre_len (f : Nat → Int32) : ∀ n, (nw_pre f n).length = n
  | 0 => rfl
  | n + 1 => by simp [nw_pre, nw_pre_len f n]
theorem nw_pre_eq {f g : Nat → Int32} : ∀ (n : Nat), (∀ j, j < n → f j = g j) → nw_pre f n = nw_pre g n
  | 0, _ => rfl
  | n + 1, h => by
    simp only [nw_pre]
    rw [nw_pre_eq n (fun j hj => h j (by omega)), h n (by omega)]
theorem nw_pre_inv {f g : Nat → Int32} : ∀ (n : Nat), nw_pre f n = nw_pre g n → ∀ j, j < n → f j = g j
  | 0, _, j, hj => absurd hj (by omega)
  | n + 1, h, j, hj => by
    simp only [nw_pre] at h
    have h2 := List.append_inj h (by rw [nw_pre_len, nw_pre_len])
    by_cases hjn : j = n
    · subst hjn
      simpa using h2.2
    · exact nw_pre_inv n h2.1 j (by omega)
theorem nw_pre_mem {f : Nat → Int32} {x : Int32} : ∀ (n : Nat), x ∈ nw_pre f n ↔ ∃ j, j < n ∧ f j = x
  | 0 => by simp [nw_pre]
  | n + 1 => by
    simp only [nw_pre, List.mem_append, List.mem_singleton, nw_pre_mem n]
    constructor
    · rintro (⟨j, h1, h2⟩ | h)
      · exact ⟨j, by omega, h2⟩
      · exact ⟨n, by omega, h.symm⟩
    · rintro ⟨j, h1, h2⟩
      by_cases hj : j = n
      · subst hj; exact Or.inr h2.symm
      · exact Or.inl ⟨j, by omega, h2⟩
def nw_out (x : Int32) (l : List Int32) : List Int32 := l.filter (fun y => decide (y ≠ x))
theorem nw_out_snoc (x y : Int32) (l : List Int32) : nw_out x (l ++ [y]) = if y = x then nw_out x l else nw_out x l ++ [y] := by
  unfold nw_out
  rw [List.filter_append]
  by_cases h : y = x
  · simp [h]
  · simp [h]
theorem nw_out_len (x : Int32) (l : List Int32) : (nw_out x l).length ≤ l.length := List.length_filter_le _ _
theorem nw_out_mem {x y : Int32} {l : List Int32} : y ∈ nw_out x l ↔ y ∈ l ∧ y ≠ x := by
  unfold nw_out
  rw [List.mem_filter]
  simp
theorem nw_out_nodup {x : Int32} {l : List Int32} (h : l.Nodup) : (nw_out x l).Nodup := List.Pairwise.filter _ h
/-- different IDs of a kind are no more than there are of that kind -/
theorem nw_nodup_le : ∀ (l : List Int32) (p : Nat → Bool), l.Nodup → (∀ x ∈ l, ∃ i, 1 ≤ i ∧ i ≤ 40 ∧ x = nI i ∧ p i = true) → l.length ≤ nw_ids p
  | [], _, _, _ => Nat.zero_le _
  | x :: l, p, hn, h => by
    obtain ⟨i, h1, h2, rfl, h3⟩ := h x List.mem_cons_self
    rw [List.nodup_cons] at hn
    have ih := nw_nodup_le l (va_up p i false) hn.2 (fun y hy => by
      obtain ⟨j, g1, g2, rfl, g3⟩ := h y (List.mem_cons_of_mem _ hy)
      refine ⟨j, g1, g2, rfl, ?_⟩
      have : j ≠ i := fun e => hn.1 (e ▸ hy)
      rw [va_up_ne p false this]
      exact g3)
    have hd : nw_ids (va_up p i false) + 1 = nw_ids p := by
      unfold nw_ids
      have e : (fun k => va_up p i false (k + 1)) = va_up (fun k => p (k + 1)) (i - 1) false := by
        funext k
        by_cases hk : k + 1 = i
        · subst hk
          rw [va_up_self, show k + 1 - 1 = k by omega, va_up_self]
        · rw [va_up_ne p false hk, va_up_ne _ false (show k ≠ i - 1 by omega)]
      rw [e]
      exact nw_cnt_dn 40 (by omega) (by rw [show i - 1 + 1 = i by omega]; exact h3)
    simp only [List.length_cons]
    omega
-- the next number in a group
def nw_nx (f : Nat → Int32) (low : Int32) : Nat → Int32
  | 0 => -1
  | k + 1 => if low < f (k + 1) ∧ (nw_nx f low k = -1 ∨ f (k + 1) < nw_nx f low k) then f (k + 1) else nw_nx f low k
def nw_pv (f : Nat → Int32) (top : Int32) : Nat → Int32
  | 0 => -1
  | k + 1 => if f (k + 1) ≠ nI 0 ∧ f (k + 1) < top ∧ nw_pv f top k < f (k + 1) then f (k + 1) else nw_pv f top k
/-- the first ID with that number -/
def nw_at1 (f : Nat → Int32) (x : Int32) : Nat → Nat
  | 0 => 0
  | k + 1 => if nw_at1 f x k ≠ 0 then nw_at1 f x k else if f (k + 1) = x then k + 1 else 0
