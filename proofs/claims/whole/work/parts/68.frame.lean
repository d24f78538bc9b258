/-! what a call leaves alone -/
theorem q_l_1 (S : nw_Q) (f k : Nat) (x : Int64) : (q_l S f k x).1 = S.1 := rfl
theorem q_l_2 (S : nw_Q) (f k : Nat) (x : Int64) (g : Nat) : (q_l S f k x).2 g = if g = f then vp_updL (S.2 f) k x else S.2 g := rfl
/-- entry k of row f is none of server t -/
abbrev q_far (t f k : Nat) : Prop := f < 10 ∨ ((f = 10 ∨ f = 11) ∧ (k < 6 * t ∨ 6 * t + 6 ≤ k)) ∨ (12 ≤ f ∧ f ≤ 16 ∧ (k < 41 * t ∨ 41 * t + 41 ≤ k)) ∨ (f = 17 ∧ (k < 246 * t ∨ 246 * t + 246 ≤ k)) ∨ (f = 19 ∧ (k < 96 * t ∨ 96 * t + 96 ≤ k)) ∨ (f = 20 ∧ (k < 4 * t ∨ 4 * t + 4 ≤ k)) ∨ (21 ≤ f ∧ k ≠ t)
theorem q_i_x {S : nw_Q} {f k g j : Nat} {x : Int32} (h : g = f → j ≠ k) : (q_i S f k x).1 g j = S.1 g j := by
  rw [q_i_1]
  by_cases hg : g = f
  · rw [if_pos hg, pk_un (h hg), hg]
  · rw [if_neg hg]
theorem q_at_i {t : Nat} {S S' : nw_Q} {f k : Nat} {x : Int32} (h : q_at t S S') (hk : q_far t f k) : q_at t S (q_i S' f k x) := by
  obtain ⟨h1, h2, h3, h4, h5, h6⟩ := h
  refine ⟨fun i a b => ?_, fun g hg => ?_, fun i g a b hg => ?_, fun f' a b => ?_, fun t' ht => ?_, fun t' j ht hj => ?_⟩
  · obtain ⟨e1, e2, e3, e4, e5⟩ := h1 i a b
    exact ⟨(q_i_x (by omega)).trans e1, (q_i_x (by omega)).trans e2, (q_i_x (by omega)).trans e3, (q_i_x (by omega)).trans e4, (q_i_x (by omega)).trans e5⟩
  · obtain ⟨e1, e2⟩ := h2 g hg
    exact ⟨(q_i_x (by omega)).trans e1, (q_i_x (by omega)).trans e2⟩
  · exact (q_i_x (by omega)).trans (h3 i g a b hg)
  · exact (q_i_x (by omega)).trans (h4 f' a b)
  · exact ⟨(h5 t' ht).1, (q_i_x (by omega)).trans (h5 t' ht).2⟩
  · exact (q_i_x (by omega)).trans (h6 t' j ht hj)
theorem q_at_l {t : Nat} {S S' : nw_Q} {f k : Nat} {x : Int64} (h : q_at t S S') (hk : f = 18 → k < 4 * t ∨ 4 * t + 4 ≤ k) : q_at t S (q_l S' f k x) := by
  obtain ⟨h1, h2, h3, h4, h5, h6⟩ := h
  refine ⟨h1, h2, h3, h4, fun t' ht => ⟨?_, (h5 t' ht).2⟩, h6⟩
  rw [q_l_2]
  by_cases hg : 18 = f
  · rw [if_pos hg]
    have : 4 * t + t' ≠ k := by have := hk hg.symm; omega
    rw [← hg]
    exact (if_neg this).trans (h5 t' ht).1
  · rw [if_neg hg]
    exact (h5 t' ht).1
theorem j_ref_i {S : nw_Q} {f k : Nat} {x : Int32} (h : j_ref S) (hx : (f ≠ 8 ∧ f ≠ 20 ∧ f ≠ 21) ∨ (f ≠ 20 ∧ ∃ c, c ≤ 40 ∧ x = nI c) ∨ ∃ c, c ≤ 24 ∧ x = nI c) : j_ref (q_i S f k x) := by
  obtain ⟨h1, h2, h3⟩ := h
  refine ⟨fun l hl => ?_, fun s hs => ?_, fun i hi => ?_⟩
  · rw [q_i_1]
    by_cases hf : 20 = f
    · rw [if_pos hf]
      by_cases hlk : l = k
      · rw [hlk, pk_us]
        rcases hx with hx | hx | hx
        · omega
        · omega
        · exact hx
      · rw [pk_un hlk, ← hf]
        exact h1 l hl
    · rw [if_neg hf]
      exact h1 l hl
  · rw [q_i_1]
    by_cases hf : 21 = f
    · rw [if_pos hf]
      by_cases hlk : s = k
      · rw [hlk, pk_us]
        rcases hx with hx | hx | ⟨c, hx, hx2⟩
        · omega
        · exact hx.2
        · exact ⟨c, by omega, hx2⟩
      · rw [pk_un hlk, ← hf]
        exact h2 s hs
    · rw [if_neg hf]
      exact h2 s hs
  · rw [q_i_1]
    by_cases hf : 8 = f
    · rw [if_pos hf]
      by_cases hlk : i = k
      · rw [hlk, pk_us]
        rcases hx with hx | hx | ⟨c, hx, hx2⟩
        · omega
        · exact hx.2
        · exact ⟨c, by omega, hx2⟩
      · rw [pk_un hlk, ← hf]
        exact h3 i hi
    · rw [if_neg hf]
      exact h3 i hi
/-- nothing but cells of server s has changed -/
def nw_chg (n s : Nat) (w w' : nw_W) : Prop := w'.1 = w.1 ∧ ∀ a, (∀ k, k < 20 + 2 * n → a ≠ nw_S n s k) → nw_I w' a = nw_I w a ∧ nw_L w' a = nw_L w a
theorem nw_chg_r (n s : Nat) (w : nw_W) : nw_chg n s w w := ⟨rfl, fun _ _ => ⟨rfl, rfl⟩⟩
theorem nw_chg_t {n s : Nat} {u v w : nw_W} (h1 : nw_chg n s u v) (h2 : nw_chg n s v w) : nw_chg n s u w := ⟨h2.1.trans h1.1, fun a ha => ⟨(h2.2 a ha).1.trans (h1.2 a ha).1, (h2.2 a ha).2.trans (h1.2 a ha).2⟩⟩
theorem nw_chg_I {n s k : Nat} {w w' : nw_W} (h : nw_chg n s w w') (hk : k < 20 + 2 * n) (f : Nat → Int32) : nw_chg n s w (nw_setI w' (nw_S n s k) f) := ⟨h.1, fun a ha => ⟨by rw [nw_I_I, va_up_ne _ _ (ha k hk)]; exact (h.2 a ha).1, (h.2 a ha).2⟩⟩
theorem nw_chg_L {n s k : Nat} {w w' : nw_W} (h : nw_chg n s w w') (hk : k < 20 + 2 * n) (f : Nat → Int64) : nw_chg n s w (nw_setL w' (nw_S n s k) f) := ⟨h.1, fun a ha => ⟨(h.2 a ha).1, by rw [nw_L_L, va_up_ne _ _ (ha k hk)]; exact (h.2 a ha).2⟩⟩
theorem nw_chg_c {n s t : Nat} {w w' : nw_W} (h : nw_chg n s w w') (ht : t ≠ s) {k : Nat} (hk : k < 20 + 2 * n) : nw_I w' (nw_S n t k) = nw_I w (nw_S n t k) ∧ nw_L w' (nw_S n t k) = nw_L w (nw_S n t k) := h.2 _ (fun _ hk' => nw_S_ne ht hk hk')
theorem nw_chg_1 {n s : Nat} {w w' : nw_W} (h : nw_chg n s w w') : nw_I w' 1 = nw_I w 1 := (h.2 _ (fun _ _ => nw_1_ne)).1
theorem nw_chg_A {n s j : Nat} {w w' : nw_W} (h : nw_chg n s w w') (hs : s < n) : nw_I w' (nw_A n + j) = nw_I w (nw_A n + j) ∧ nw_L w' (nw_A n + j) = nw_L w (nw_A n + j) := h.2 _ (fun _ hk => nw_A_ne hs hk)
theorem nw_chg_fm {n s : Nat} {w w' : nw_W} (h : nw_chg n s w w') (hs : s < n) : nw_fm n w w' := ⟨h.1, fun a ha => h.2 a (fun k hk => by
  have h1 := nw_S_lt hs hk
  have h2 := nw_S_3 n s k
  omega)⟩
/-- the relation, where only server s has changed -/
theorem nw_J_s {n B s : Nat} {w w' : nw_W} {S S' : nw_Q} (hJ : nw_J n w S B) (hs : s < n) (hc : nw_chg n s w w') (href : j_ref S') (h3 : S'.1 3 = S.1 3) (h4 : S'.2 4 = S.2 4) (ha : S'.1 5 = S.1 5 ∧ S'.1 6 = S.1 6 ∧ S'.1 7 = S.1 7 ∧ S'.1 8 = S.1 8 ∧ S'.1 9 = S.1 9) (hat : ∀ t, t < n → t ≠ s → q_at t S S') (hsv : j_srv n s (nw_c n w' s) (nw_L w' (nw_S n s 18)) S' (B + 1)) : nw_J n w' S' (B + 1) ∧ nw_fm n w w' := by
  obtain ⟨h1, -, h5, h6, h7⟩ := hJ
  refine ⟨⟨nw_Ok_1 hc.1 h1, href, ?_, fun i a b => ?_, fun t ht => ?_⟩, nw_chg_fm hc hs⟩
  · unfold j_glob
    rw [h3, h4, nw_chg_1 hc, (nw_chg_A hc hs).2]
    exact h5
  · have := h6 i a b
    unfold j_art at this ⊢
    rw [ha.1, ha.2.1, ha.2.2.1, ha.2.2.2.1, ha.2.2.2.2, show nw_A n + 1 + i = nw_A n + (1 + i) by omega, (nw_chg_A hc hs).1, show nw_A n + (1 + i) = nw_A n + 1 + i by omega]
    exact this
  · by_cases hts : t = s
    · rw [hts]
      exact hsv
    · exact j_srv_c (h7 t ht) h1.2.1 (fun k hk => (nw_chg_c hc hts hk).1) (nw_chg_c hc hts (by omega)).2 (by omega) (hat t ht hts) (fun i _ _ q => ⟨by rw [ha.2.2.2.2]; exact q, by rw [ha.2.2.1]⟩)
theorem k_grpF_ok {f : Nat → Int64} {name : Int64} {G : Nat} (hG : G ≤ 6) : ∀ d g, g + d = 6 → g ≤ G → k_grpF f name G d g ≤ G ∧ (k_grpF f name G d g < G → f (k_grpF f name G d g) = name)
  | 0, g, h1, h2 => ⟨h2, fun h => by simp only [k_grpF] at h; omega⟩
  | d + 1, g, h1, h2 => by
    simp only [k_grpF]
    by_cases h : g < G ∧ f g ≠ name
    · rw [if_pos h]
      exact k_grpF_ok hG d (g + 1) (by omega) (by omega)
    · rw [if_neg h]
      exact ⟨h2, fun q => Classical.byContradiction (fun e => h ⟨q, e⟩)⟩
