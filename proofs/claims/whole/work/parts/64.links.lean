/-! the class's ways of counting against the reference's -/
theorem nI_inj {a b : Nat} (ha : a ≤ 200000) (hb : b ≤ 200000) : (nI a = nI b) = (a = b) := nw_ieq (by omega) (by omega)
theorem nI_lt' {a b : Nat} (ha : a ≤ 200000) (hb : b ≤ 200000) : (nI a < nI b) = (a < b) := nw_ilt (by omega) (by omega)
theorem nI_le' {a b : Nat} (ha : a ≤ 200000) (hb : b ≤ 200000) : (nI a ≤ nI b) = (a ≤ b) := nw_ile (by omega) (by omega)
theorem nI_m1 {a : Nat} (ha : a ≤ 200000) : (nI a = -1) = False := nw_im1 (by omega)
theorem nI_m1lt {a : Nat} (ha : a ≤ 200000) : ((-1 : Int32) < nI a) = True := eq_true (by
  rw [Int32.lt_iff_toInt_lt, nI_toInt (by omega)]
  show (-1 : Int) < _
  omega)
theorem j_nxU {S : nw_Q} {s g : Nat} {f : Nat → Int32} {N : Nat → Nat} {a : Nat} (hq : ∀ i, 1 ≤ i → i ≤ 40 → q_num S s i g = nI (N i)) (hf : ∀ i, 1 ≤ i → i ≤ 40 → f i = nI (N i)) (hN : ∀ i, 1 ≤ i → i ≤ 40 → N i ≤ 100000) (ha : a ≤ 100000) : ∀ k, k ≤ 40 →
    (((q_nextF S s g (nI (a + 1)) true k).1 = 0 ∧ nw_nx f (nI a) k = -1 ∧ ∀ i, 1 ≤ i → i ≤ k → N i ≤ a) ∨ ∃ j, 1 ≤ j ∧ j ≤ k ∧ q_nextF S s g (nI (a + 1)) true k = (j, nI (N j)) ∧ nw_nx f (nI a) k = nI (N j) ∧ a < N j ∧ (∀ i, 1 ≤ i → i < j → N i ≠ N j) ∧ ∀ i, 1 ≤ i → i ≤ k → N i ≤ a ∨ N j ≤ N i)
  | 0, _ => Or.inl ⟨rfl, rfl, fun i h1 h2 => by omega⟩
  | k + 1, hk => by
    have ih := j_nxU hq hf hN ha k (by omega)
    have e1 := hq (k + 1) (by omega) hk
    have e2 := hf (k + 1) (by omega) hk
    have e3 := hN (k + 1) (by omega) hk
    simp only [q_nextF, nw_nx, e1, e2, if_true, nI_lt' (show 0 ≤ 200000 by omega) (show N (k + 1) ≤ 200000 by omega), nI_le' (show a + 1 ≤ 200000 by omega) (show N (k + 1) ≤ 200000 by omega), nI_lt' (show a ≤ 200000 by omega) (show N (k + 1) ≤ 200000 by omega)]
    rcases ih with ⟨i1, i2, i3⟩ | ⟨j, j1, j2, j3, j4, j5, j6, j7⟩
    · rw [i1, i2]
      by_cases hc : a < N (k + 1)
      · rw [if_pos ⟨⟨by omega, by omega⟩, Or.inl rfl⟩, if_pos ⟨hc, Or.inl rfl⟩]
        refine Or.inr ⟨k + 1, by omega, Nat.le_refl _, rfl, rfl, hc, fun i a1 a2 => ?_, fun i a1 a2 => ?_⟩
        · have := i3 i a1 (by omega)
          omega
        · by_cases hi : i = k + 1
          · right; rw [hi]; exact Nat.le_refl _
          · left; exact i3 i a1 (by omega)
      · rw [if_neg (by omega), if_neg (by omega)]
        refine Or.inl ⟨i1, rfl, fun i a1 a2 => ?_⟩
        by_cases hi : i = k + 1
        · rw [hi]; omega
        · exact i3 i a1 (by omega)
    · have e4 := hN j j1 (by omega)
      rw [j3, j4]
      simp only [nI_lt' (show N (k + 1) ≤ 200000 by omega) (show N j ≤ 200000 by omega), nI_m1 (show N j ≤ 200000 by omega), false_or]
      by_cases hc : a < N (k + 1) ∧ N (k + 1) < N j
      · rw [if_pos ⟨⟨by omega, by omega⟩, Or.inr hc.2⟩, if_pos hc]
        refine Or.inr ⟨k + 1, by omega, Nat.le_refl _, rfl, rfl, hc.1, fun i a1 a2 => ?_, fun i a1 a2 => ?_⟩
        · rcases j7 i a1 (by omega) with h | h <;> omega
        · by_cases hi : i = k + 1
          · right; rw [hi]; exact Nat.le_refl _
          · rcases j7 i a1 (by omega) with h | h
            · left; exact h
            · right; omega
      · rw [if_neg (by omega), if_neg hc]
        refine Or.inr ⟨j, j1, by omega, rfl, rfl, j5, j6, fun i a1 a2 => ?_⟩
        by_cases hi : i = k + 1
        · rw [hi]; omega
        · exact j7 i a1 (by omega)
theorem j_nxD {S : nw_Q} {s g : Nat} {f : Nat → Int32} {N : Nat → Nat} {b : Nat} (hq : ∀ i, 1 ≤ i → i ≤ 40 → q_num S s i g = nI (N i)) (hf : ∀ i, 1 ≤ i → i ≤ 40 → f i = nI (N i)) (hN : ∀ i, 1 ≤ i → i ≤ 40 → N i ≤ 100000) (hb : b + 1 ≤ 100000) : ∀ k, k ≤ 40 →
    (((q_nextF S s g (nI b) false k).1 = 0 ∧ nw_pv f (nI (b + 1)) k = -1 ∧ ∀ i, 1 ≤ i → i ≤ k → N i = 0 ∨ b < N i) ∨ ∃ j, 1 ≤ j ∧ j ≤ k ∧ q_nextF S s g (nI b) false k = (j, nI (N j)) ∧ nw_pv f (nI (b + 1)) k = nI (N j) ∧ 1 ≤ N j ∧ (∀ i, 1 ≤ i → i < j → N i ≠ N j) ∧ ∀ i, 1 ≤ i → i ≤ k → N i = 0 ∨ b < N i ∨ N i ≤ N j)
  | 0, _ => Or.inl ⟨rfl, rfl, fun i h1 h2 => by omega⟩
  | k + 1, hk => by
    have ih := j_nxD hq hf hN hb k (by omega)
    have e1 := hq (k + 1) (by omega) hk
    have e2 := hf (k + 1) (by omega) hk
    have e3 := hN (k + 1) (by omega) hk
    simp only [q_nextF, nw_pv, e1, e2, Bool.false_eq_true, if_false, ne_eq, nI_inj (show N (k + 1) ≤ 200000 by omega) (show 0 ≤ 200000 by omega), nI_lt' (show 0 ≤ 200000 by omega) (show N (k + 1) ≤ 200000 by omega), nI_le' (show N (k + 1) ≤ 200000 by omega) (show b ≤ 200000 by omega), nI_lt' (show N (k + 1) ≤ 200000 by omega) (show b + 1 ≤ 200000 by omega)]
    rcases ih with ⟨i1, i2, i3⟩ | ⟨j, j1, j2, j3, j4, j5, j6, j7⟩
    · rw [i1, i2]
      simp only [nI_m1lt (show N (k + 1) ≤ 200000 by omega), and_true]
      by_cases hc : 0 < N (k + 1) ∧ N (k + 1) ≤ b
      · rw [if_pos ⟨hc, Or.inl (by trivial)⟩, if_pos (by omega)]
        refine Or.inr ⟨k + 1, by omega, Nat.le_refl _, rfl, rfl, hc.1, fun i a1 a2 => ?_, fun i a1 a2 => ?_⟩
        · have := i3 i a1 (by omega)
          omega
        · by_cases hi : i = k + 1
          · right; right; rw [hi]; exact Nat.le_refl _
          · have := i3 i a1 (by omega)
            omega
      · rw [if_neg (by omega), if_neg (by omega)]
        refine Or.inl ⟨i1, rfl, fun i a1 a2 => ?_⟩
        by_cases hi : i = k + 1
        · rw [hi]; omega
        · exact i3 i a1 (by omega)
    · have e4 := hN j j1 (by omega)
      rw [j3, j4]
      simp only [nI_lt' (show N j ≤ 200000 by omega) (show N (k + 1) ≤ 200000 by omega)]
      by_cases hc : (0 < N (k + 1) ∧ N (k + 1) ≤ b) ∧ N j < N (k + 1)
      · rw [if_pos ⟨hc.1, Or.inr hc.2⟩, if_pos (by omega)]
        refine Or.inr ⟨k + 1, by omega, Nat.le_refl _, rfl, rfl, by omega, fun i a1 a2 => ?_, fun i a1 a2 => ?_⟩
        · have := j7 i a1 (by omega)
          omega
        · by_cases hi : i = k + 1
          · right; right; rw [hi]; exact Nat.le_refl _
          · have := j7 i a1 (by omega)
            omega
      · rw [if_neg (by omega), if_neg (by omega)]
        refine Or.inr ⟨j, j1, by omega, rfl, rfl, j5, j6, fun i a1 a2 => ?_⟩
        by_cases hi : i = k + 1
        · rw [hi]; omega
        · exact j7 i a1 (by omega)
theorem nw_at1_un {f : Nat → Int32} {x : Int32} {j : Nat} (h1 : 1 ≤ j) (hj : f j = x) (hb : ∀ i, 1 ≤ i → i < j → f i ≠ x) : ∀ k, nw_at1 f x k = if j ≤ k then j else 0
  | 0 => by rw [if_neg (by omega)]; rfl
  | k + 1 => by
    have ih := nw_at1_un h1 hj hb k
    simp only [nw_at1, ih]
    by_cases h : j ≤ k
    · rw [if_pos h, if_pos (by omega), if_pos (by omega)]
    · rw [if_neg h, if_neg (by omega)]
      by_cases h' : j = k + 1
      · rw [← h', if_pos hj, if_pos (Nat.le_refl _)]
      · rw [if_neg (hb (k + 1) (by omega) (by omega)), if_neg (by omega)]
theorem nw_at1_eq {f f' : Nat → Int32} {x : Int32} : ∀ k, (∀ i, 1 ≤ i → i ≤ k → f i = f' i) → nw_at1 f x k = nw_at1 f' x k
  | 0, _ => rfl
  | k + 1, h => by
    simp only [nw_at1, nw_at1_eq k (fun i a b => h i a (by omega)), h (k + 1) (by omega) (Nat.le_refl _)]
-- use
theorem j_none {S : nw_Q} {s i : Nat} {kp : Nat → Int32} (h : ∀ g, g < 6 → kp g = S.1 10 (6 * s + g)) : ∀ g, g ≤ 6 → q_noneF S s i g = !(nw_car (S.1 5 i) kp g)
  | 0, _ => rfl
  | g + 1, hg => by
    simp only [q_noneF, nw_car, j_none h g (by omega), q_carries, h g (by omega)]
    cases nw_car (S.1 5 i) kp g <;> cases bt (S.1 5 i) g <;> simp
-- room
theorem q_runF_ok (F : Nat → Bool) : ∀ d b k, k ≤ q_runF F d b ↔ k ≤ d ∧ nw_all F b k
  | 0, b, k => by
    simp only [q_runF]
    constructor
    · intro h
      exact ⟨h, fun c c1 c2 => by omega⟩
    · exact fun h => h.1
  | d + 1, b, k => by
    simp only [q_runF]
    cases k with
    | zero => exact ⟨fun _ => ⟨by omega, fun c c1 c2 => by omega⟩, fun _ => by omega⟩
    | succ k =>
      by_cases h : F b = true
      · rw [if_pos h, Nat.add_le_add_iff_right, q_runF_ok F d (b + 1) k]
        constructor
        · rintro ⟨h1, h2⟩
          refine ⟨by omega, fun c c1 c2 => ?_⟩
          by_cases hc : c = b
          · rw [hc]; exact h
          · exact h2 c (by omega) (by omega)
        · rintro ⟨h1, h2⟩
          exact ⟨by omega, fun c c1 c2 => h2 c (by omega) (by omega)⟩
      · rw [if_neg h]
        constructor
        · intro q; omega
        · rintro ⟨h1, h2⟩
          exact absurd (h2 b (Nat.le_refl _) (by omega)) h
theorem q_run_le (S : nw_Q) (s b : Nat) : q_run S s b ≤ 24 := q_runF_le _ 24 b
theorem q_run_ok {S : nw_Q} {s : Nat} {o : Nat → Int32} (h : ∀ b, b < 24 → q_free S s b = nw_fr0 o b) {b k : Nat} (hk : 1 ≤ k) : k ≤ q_run S s b ↔ b + k ≤ 24 ∧ nw_all (nw_fr0 o) b k := by
  unfold q_run
  rw [q_runF_ok]
  constructor
  · rintro ⟨h1, h2⟩
    have : b + k ≤ 24 := by
      have := h2 (b + k - 1) (by omega) (by omega)
      unfold q_free at this
      rw [Bool.and_eq_true, Bool.and_eq_true, decide_eq_true_eq] at this
      omega
    exact ⟨this, fun c c1 c2 => by rw [← h c (by omega)]; exact h2 c c1 c2⟩
  · rintro ⟨h1, h2⟩
    exact ⟨by omega, fun c c1 c2 => by rw [h c (by omega)]; exact h2 c c1 c2⟩
theorem j_room {S : nw_Q} {s m : Nat} {o : Nat → Int32} (h : ∀ b, b < 24 → q_free S s b = nw_fr0 o b) (hm : 1 ≤ m) (hm2 : m ≤ 24) : nw_room (nw_fr0 o) m (q_room S s (nI m)) := by
  have loop : ∀ d b, b + d = 24 → (∀ c, c < b → ¬ (c + m ≤ 24 ∧ nw_all (nw_fr0 o) c m)) → nw_room (nw_fr0 o) m (q_roomF S s (nI m) d b) := by
    intro d
    induction d with
    | zero =>
      intro b hb hc
      exact Or.inr ⟨rfl, fun c c1 c2 => hc c (by omega) ⟨c1, c2⟩⟩
    | succ d ih =>
      intro b hb hc
      have hle := q_run_le S s b
      have e : (nI m ≤ nI (q_run S s b)) = (b + m ≤ 24 ∧ nw_all (nw_fr0 o) b m) := (nI_le' (show m ≤ 200000 by omega) (show q_run S s b ≤ 200000 by omega)).trans (propext (q_run_ok h hm))
      simp only [q_roomF]
      by_cases hr : b + m ≤ 24 ∧ nw_all (nw_fr0 o) b m
      · rw [if_pos (by rw [e]; exact hr)]
        exact Or.inl ⟨b, hr.1, rfl, hr.2, fun c c1 c2 => hc c c1 ⟨by omega, c2⟩⟩
      · rw [if_neg (by rw [e]; exact hr)]
        refine ih (b + 1) (by omega) (fun c c1 => ?_)
        by_cases hcb : c = b
        · rw [hcb]; exact hr
        · exact hc c (by omega)
  exact loop 24 0 rfl (fun c c1 => by omega)
theorem q_most_ok (S : nw_Q) (s : Nat) : ∀ B, (∀ b, b < B → q_run S s b ≤ q_most S s B) ∧ (q_most S s B = 0 ∨ ∃ b, b < B ∧ q_run S s b = q_most S s B)
  | 0 => ⟨fun b h => by omega, Or.inl rfl⟩
  | B + 1 => by
    obtain ⟨h1, h2⟩ := q_most_ok S s B
    simp only [q_most]
    by_cases h : q_most S s B < q_run S s B
    · rw [if_pos h]
      refine ⟨fun b hb => ?_, Or.inr ⟨B, by omega, rfl⟩⟩
      by_cases hbB : b = B
      · rw [hbB]; exact Nat.le_refl _
      · have := h1 b (by omega)
        omega
    · rw [if_neg h]
      refine ⟨fun b hb => ?_, ?_⟩
      · by_cases hbB : b = B
        · rw [hbB]; omega
        · exact h1 b (by omega)
      · rcases h2 with h2 | ⟨b, b1, b2⟩
        · exact Or.inl h2
        · exact Or.inr ⟨b, by omega, b2⟩
theorem j_long {S : nw_Q} {s : Nat} {o : Nat → Int32} (h : ∀ b, b < 24 → q_free S s b = nw_fr0 o b) : nw_long (nw_fr0 o) (nI (q_most S s 24)) := by
  obtain ⟨h1, h2⟩ := q_most_ok S s 24
  refine ⟨_, q_most_le S s 24, rfl, ?_, fun c m hc ha => ?_⟩
  · rcases h2 with h2 | ⟨b, b1, b2⟩
    · rw [h2]
      exact ⟨0, by omega, fun c c1 c2 => by omega⟩
    · by_cases h0 : q_most S s 24 = 0
      · rw [h0]
        exact ⟨0, by omega, fun c c1 c2 => by omega⟩
      · have := (q_run_ok h (b := b) (k := q_most S s 24) (by omega)).mp (by omega)
        exact ⟨b, this.1, this.2⟩
  · by_cases h0 : m = 0
    · omega
    · have := (q_run_ok h (b := c) (k := m) (by omega)).mpr ⟨hc, ha⟩
      have := h1 c (by omega)
      omega
theorem j_cntf {S : nw_Q} {s : Nat} {o : Nat → Int32} (h : ∀ b, b < 24 → q_free S s b = nw_fr0 o b) : nw_cnt (fun b => decide (0 < q_run S s b)) 24 = nw_cnt (nw_fr0 o) 24 := nw_cnt_eq 24 (fun b hb => by
  have e : (0 < q_run S s b) = (nw_fr0 o b = true) := propext (by
    rw [show (0 < q_run S s b) = (1 ≤ q_run S s b) from rfl, q_run_ok h (Nat.le_refl 1)]
    constructor
    · rintro ⟨-, h2⟩
      exact h2 b (Nat.le_refl _) (by omega)
    · intro q
      exact ⟨by omega, fun c c1 c2 => by rw [show c = b by omega]; exact q⟩)
  simp only [e]
  cases nw_fr0 o b <;> rfl)
theorem j_fst {o : Nat → Int32} {x : Int32} {k m : Nat} (hm : 1 ≤ m) (hk : k + m ≤ 24) (h : ∀ b, b < 24 → (o b = x ↔ k ≤ b ∧ b < k + m)) : ∀ d b, b + d = 24 → b ≤ k → nw_fst o x d b = nI k
  | 0, b, h1, h2 => by omega
  | d + 1, b, h1, h2 => by
    simp only [nw_fst]
    by_cases hb : b = k
    · rw [if_pos ((h b (by omega)).mpr ⟨by omega, by omega⟩), hb]
    · rw [if_neg (fun q => by have := (h b (by omega)).mp q; omega)]
      exact j_fst hm hk h d (b + 1) (by omega) (by omega)
-- lines
theorem q_lvF_ok (row : Nat → Int32) (off : Nat) (id : Int32) : ∀ K, (q_lvF row off id K).1 ≤ K ∧ nw_pre (fun k => (q_lvF row off id K).2 (off + k)) (q_lvF row off id K).1 = nw_out id (nw_pre (fun k => row (off + k)) K) ∧ ∀ j, (j < off ∨ off + K ≤ j) → (q_lvF row off id K).2 j = row j
  | 0 => ⟨Nat.le_refl _, rfl, fun _ _ => rfl⟩
  | K + 1 => by
    obtain ⟨h1, h2, h3⟩ := q_lvF_ok row off id K
    simp only [q_lvF]
    generalize q_lvF row off id K = p at h1 h2 h3
    obtain ⟨c, r⟩ := p
    simp only at h1 h2 h3 ⊢
    have e : r (off + K) = row (off + K) := h3 _ (by omega)
    have eu : upd r (off + c) (r (off + K)) (off + K) = row (off + K) := by
      by_cases hc : c = K
      · rw [hc, pk_us, e]
      · rw [pk_un (by omega), e]
    have pr : nw_pre (fun k => upd r (off + c) (r (off + K)) (off + k)) c = nw_pre (fun k => r (off + k)) c := nw_pre_eq c (fun j hj => pk_un (by omega))
    refine ⟨?_, ?_, fun j hj => ?_⟩
    · split <;> omega
    · rw [eu]
      show _ = nw_out id (nw_pre (fun k => row (off + k)) K ++ [row (off + K)])
      rw [nw_out_snoc, ← h2]
      by_cases hx : row (off + K) = id
      · rw [if_pos hx, if_pos hx, Nat.add_zero, pr]
      · rw [if_neg hx, if_neg hx]
        show nw_pre _ c ++ [upd r (off + c) (r (off + K)) (off + c)] = _
        rw [pr, pk_us, e]
    · rw [pk_un (by omega)]
      exact h3 j (by omega)
-- names
theorem j_want {S : nw_Q} {l i : Nat} {f : Nat → Int64} {G : Nat} (hf : ∀ g, g < G → f g = S.2 4 g ∧ nw_txt false (S.2 4 g)) (hp : S.2 18 l = 0 ∨ nw_txt true (S.2 18 l)) : ∀ g, g ≤ G → k_wantF f (S.2 18 l) (S.1 5 i) g = q_wantF S l i g
  | 0, _ => rfl
  | g + 1, hg => by
    obtain ⟨e1, e2⟩ := hf g (by omega)
    simp only [k_wantF, q_wantF, j_want hf hp g (by omega), e1]
    rcases hp with hp | hp
    · rw [hp, nw_mt0 _ e2.1, Bool.and_false, Bool.and_false, Bool.and_false]
    · rw [(nw_txtB_ok true _).mpr hp, (nw_txtB_ok false _).mpr e2, Bool.true_and, Bool.true_and]
theorem j_grpF {S : nw_Q} {f : Nat → Int64} {name : Int64} {G : Nat} (hf : ∀ g, g < G → f g = S.2 4 g) : ∀ d g, k_grpF f name G d g = q_grpF S name G d g
  | 0, _ => rfl
  | d + 1, g => by
    simp only [k_grpF, q_grpF, j_grpF hf d (g + 1)]
    by_cases hg : g < G
    · rw [hf g hg]
    · rw [if_neg (fun q => hg q.1), if_neg (fun q => hg q.1)]
-- switches
theorem nw_swo {z : Int32} {hi : Nat} (h : z < nI 0 ∨ nI hi < z) (hh : hi < 1000) : z.toInt < 0 ∨ (hi : Int) < z.toInt := by
  rcases h with h | h
  · left
    have := Int32.lt_iff_toInt_lt.mp h
    rwa [nI_toInt (by omega)] at this
  · right
    have := Int32.lt_iff_toInt_lt.mp h
    rwa [nI_toInt (by omega)] at this
