/-! the class's rows against the reference's: c k the rows of a server's cells, S the reference's rows, B a bound on the calls done -/
def j_ref (S : nw_Q) : Prop := q_lines S ∧ (∀ s, s < 4 → ∃ c, c ≤ 40 ∧ S.1 21 s = nI c) ∧ ∀ i, i ≤ 40 → ∃ c, c ≤ 40 ∧ S.1 8 i = nI c
def j_glob (n : Nat) (w : nw_W) (S : nw_Q) : Prop :=
  S.1 3 0 = nI n ∧ nw_I w 1 0 = S.1 3 1 ∧ nw_I w 1 5 = S.1 3 2 ∧ nw_I w 1 4 = S.1 3 3 ∧
  ∃ G, G ≤ 6 ∧ S.1 3 3 = nI G ∧ ∀ g, g < G → nw_L w (nw_A n + 42) g = S.2 4 g ∧ nw_txt false (S.2 4 g)
def j_art (a : Nat → Int32) (S : nw_Q) (i : Nat) : Prop :=
  a 1 = S.1 9 i ∧ a 2 = S.1 5 i ∧ a 3 = S.1 6 i ∧ a 4 = S.1 7 i ∧ a 5 = S.1 8 i ∧
  ((a 0 = nI 0 ∧ S.1 5 i = nI 0 ∧ S.1 9 i = nI 0) ∨
   (a 0 = nI 1 ∧ nI 0 < S.1 5 i ∧ (S.1 9 i = nI 0 ∨ S.1 9 i = nI 1) ∧ (∃ m, 1 ≤ m ∧ m ≤ 8 ∧ S.1 7 i = nI m) ∧ ∃ k, k ≤ 40 ∧ k ≠ i ∧ S.1 8 i = nI k))
def j_ent (s : Nat) (c : Nat → Nat → Int32) (S : nw_Q) : Prop := ∀ i, 1 ≤ i → i ≤ 40 →
  c 4 i = S.1 12 (41 * s + i) ∧ c 5 i = S.1 13 (41 * s + i) ∧ c 16 i = S.1 14 (41 * s + i) ∧ c 17 i = S.1 16 (41 * s + i) ∧ (∃ k, k < 5 ∧ S.1 12 (41 * s + i) = nI k) ∧ (S.1 12 (41 * s + i) = nI 1 → S.1 9 i = nI 1)
def j_grp (s : Nat) (c : Nat → Nat → Int32) (S : nw_Q) (B : Nat) : Prop := ∀ g, g < 6 →
  c 7 g = S.1 10 (6 * s + g) ∧ c 8 g = S.1 11 (6 * s + g) ∧ nI 0 ≤ S.1 10 (6 * s + g) ∧ ∃ h, h ≤ B ∧ S.1 11 (6 * s + g) = nI h ∧
  ∀ i, 1 ≤ i → i ≤ 40 → c (10 + g) i = S.1 17 (6 * (41 * s + i) + g) ∧ ∃ k, k ≤ h ∧ S.1 17 (6 * (41 * s + i) + g) = nI k ∧ (S.1 12 (41 * s + i) ≠ nI 1 → k = 0)
def j_cnt (s : Nat) (c : Nat → Nat → Int32) (S : nw_Q) : Prop := c 3 2 = nI (q_ents S s) ∧ q_ents S s ≤ 24
def j_int (n s : Nat) (c : Nat → Nat → Int32) (S : nw_Q) : Prop := c 6 0 = S.1 21 s ∧
  ((S.1 21 s = nI 0 ∧ c 6 1 = nI 0) ∨ ∃ i, 1 ≤ i ∧ i ≤ 40 ∧ S.1 21 s = nI i ∧ c 6 1 = S.1 22 s ∧ c 6 2 = S.1 24 s ∧ c 6 3 = S.1 25 s ∧ S.1 9 i = nI 1 ∧ S.1 12 (41 * s + i) = nI 0 ∧ q_ents S s < 24 ∧ (∃ m, 1 ≤ m ∧ m ≤ 8 ∧ S.1 22 s = nI m) ∧ (S.1 25 s = -1 ∨ ∃ t, t < n ∧ S.1 25 s = nI t))
def j_sel (s : Nat) (c : Nat → Nat → Int32) (S : nw_Q) (B : Nat) : Prop := c 0 10 = S.1 26 s ∧ c 0 11 = S.1 27 s ∧ (S.1 26 s = -1 ∨ ∃ g, g < 6 ∧ S.1 26 s = nI g) ∧ (S.1 27 s = -1 ∨ (S.1 26 s ≠ -1 ∧ ∃ k, 1 ≤ k ∧ k ≤ B ∧ S.1 27 s = nI k))
def j_blk (o : Nat → Int32) (S : nw_Q) (i : Nat) (x : Int32) : Prop := ∃ k m, x = nI k ∧ S.1 7 i = nI m ∧ 1 ≤ m ∧ m ≤ 8 ∧ k + m ≤ 24 ∧ ∀ b, b < 24 → (o b = nI i ↔ k ≤ b ∧ b < k + m)
def j_own (s : Nat) (o : Nat → Int32) (S : nw_Q) : Prop := (∀ b, b < 24 → ∃ i, i ≤ 40 ∧ o b = nI i) ∧ ∀ i, 1 ≤ i → i ≤ 40 →
  (S.1 12 (41 * s + i) = nI 1 → j_blk o S i (S.1 15 (41 * s + i))) ∧ (S.1 21 s = nI i → j_blk o S i (S.1 23 s)) ∧ (S.1 12 (41 * s + i) ≠ nI 1 → S.1 21 s ≠ nI i → ∀ b, b < 24 → o b ≠ nI i)
def j_pat (n s : Nat) (cl : Nat → Int64) (S : nw_Q) : Prop := ∀ t, t < n → cl t = S.2 18 (4 * s + t) ∧ (S.2 18 (4 * s + t) = 0 ∨ nw_txt true (S.2 18 (4 * s + t))) ∧ (t = s → S.2 18 (4 * s + t) = 0)
def j_bl (n s : Nat) (c : Nat → Nat → Int32) (S : nw_Q) : Prop := ∀ t, t < n → ∃ q, q ≤ 24 ∧ c (20 + 2 * t) 1 = nI q ∧ S.1 20 (4 * s + t) = nI q ∧ nw_pre (c (21 + 2 * t)) q = nw_pre (fun k => S.1 19 (24 * (4 * s + t) + k)) q ∧ (nw_pre (c (21 + 2 * t)) q).Nodup ∧ ∀ x ∈ nw_pre (c (21 + 2 * t)) q, ∃ i, 1 ≤ i ∧ i ≤ 40 ∧ x = nI i ∧ S.1 12 (41 * s + i) = nI 1
def j_srv (n s : Nat) (c : Nat → Nat → Int32) (cl : Nat → Int64) (S : nw_Q) (B : Nat) : Prop :=
  j_ent s c S ∧ j_grp s c S B ∧ j_cnt s c S ∧ j_int n s c S ∧ j_sel s c S B ∧ j_own s (c 2) S ∧ j_pat n s cl S ∧ j_bl n s c S
def nw_c (n : Nat) (w : nw_W) (s : Nat) : Nat → Nat → Int32 := fun k => nw_I w (nw_S n s k)
def nw_J (n : Nat) (w : nw_W) (S : nw_Q) (B : Nat) : Prop := nw_Ok n w ∧ j_ref S ∧ j_glob n w S ∧ (∀ i, 1 ≤ i → i ≤ 40 → j_art (nw_I w (nw_A n + 1 + i)) S i) ∧ ∀ s, s < n → j_srv n s (nw_c n w s) (nw_L w (nw_S n s 18)) S B
/-- nothing but the class's rows has changed -/
def nw_fm (n : Nat) (w w' : nw_W) : Prop := w'.1 = w.1 ∧ (∀ a, (a = 0 ∨ nw_A n + 43 ≤ a) → nw_I w' a = nw_I w a ∧ nw_L w' a = nw_L w a)
/-- a free block is one without an owner -/
theorem j_free {s : Nat} {o : Nat → Int32} {S : nw_Q} (h : j_own s o S) (hi : S.1 21 s = nI 0 ∨ ∃ i, 1 ≤ i ∧ i ≤ 40 ∧ S.1 21 s = nI i) {b : Nat} (hb : b < 24) : q_free S s b = decide (o b = nI 0) := by
  obtain ⟨h1, h2⟩ := h
  obtain ⟨j, hj, hoj⟩ := h1 b hb
  have key : q_free S s b = true ↔ o b = nI 0 := by
    unfold q_free
    rw [Bool.and_eq_true, Bool.and_eq_true, q_all_ok, decide_eq_true_eq, decide_eq_true_eq]
    constructor
    · rintro ⟨⟨-, g1⟩, g2⟩
      by_cases hj0 : j = 0
      · rw [hoj, hj0]
      · exfalso
        obtain ⟨a1, a2, a3⟩ := h2 j (by omega) hj
        by_cases he : S.1 12 (41 * s + j) = nI 1
        · obtain ⟨k, m, e1, e2, e3, e4, e5, e6⟩ := a1 he
          have hr := (e6 b hb).mp hoj
          have hc := g1 j (by omega) hj
          unfold q_nc at hc
          rw [decide_eq_true_eq, e1, e2, nI_add, nI_ltI (by omega) (by omega), nI_leI (by omega) (by omega)] at hc
          rcases hc with hc | hc | hc
          · exact hc he
          · omega
          · omega
        · by_cases hc : S.1 21 s = nI j
          · obtain ⟨k, m, e1, e2, e3, e4, e5, e6⟩ := a2 hc
            have hr := (e6 b hb).mp hoj
            rw [hc, nI_clamp (by omega), e1, e2, nI_add, nI_ltI (by omega) (by omega), nI_leI (by omega) (by omega), nI_eq (by omega) (by omega)] at g2
            omega
          · exact a3 he hc b hb hoj
    · intro h0
      refine ⟨⟨hb, fun i b1 b2 => ?_⟩, ?_⟩
      · obtain ⟨a1, a2, a3⟩ := h2 i b1 b2
        unfold q_nc
        rw [decide_eq_true_eq]
        by_cases he : S.1 12 (41 * s + i) = nI 1
        · obtain ⟨k, m, e1, e2, e3, e4, e5, e6⟩ := a1 he
          have hn : ¬ (k ≤ b ∧ b < k + m) := fun q => by
            have := (e6 b hb).mpr q
            rw [h0, nI_eq (by omega) (by omega)] at this
            omega
          rw [e1, e2, nI_add, nI_ltI (by omega) (by omega), nI_leI (by omega) (by omega)]
          omega
        · exact Or.inl he
      · rcases hi with hi | ⟨i, b1, b2, hi⟩
        · exact Or.inl hi
        · obtain ⟨k, m, e1, e2, e3, e4, e5, e6⟩ := (h2 i b1 b2).2.1 hi
          have hn : ¬ (k ≤ b ∧ b < k + m) := fun q => by
            have := (e6 b hb).mpr q
            rw [h0, nI_eq (by omega) (by omega)] at this
            omega
          rw [hi, nI_clamp (by omega), e1, e2, nI_add, nI_ltI (by omega) (by omega), nI_leI (by omega) (by omega)]
          omega
  by_cases h0 : o b = nI 0
  · rw [key.mpr h0, decide_eq_true h0]
  · rw [decide_eq_false h0]
    cases hq : q_free S s b
    · rfl
    · exact absurd (key.mp hq) h0
