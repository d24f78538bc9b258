/-! when the relation carries over: rows that stayed the same -/
abbrev j_keep (S S' : nw_Q) : Prop := ∀ i, 1 ≤ i → i ≤ 40 → S.1 9 i = nI 1 → S'.1 9 i = nI 1 ∧ S'.1 7 i = S.1 7 i
theorem j_ent_c {s : Nat} {c c' : Nat → Nat → Int32} {S S' : nw_Q} (h : j_ent s c S) (hc : c' 4 = c 4 ∧ c' 5 = c 5 ∧ c' 16 = c 16 ∧ c' 17 = c 17) (hS : ∀ i, 1 ≤ i → i ≤ 40 → S'.1 12 (41 * s + i) = S.1 12 (41 * s + i) ∧ S'.1 13 (41 * s + i) = S.1 13 (41 * s + i) ∧ S'.1 14 (41 * s + i) = S.1 14 (41 * s + i) ∧ S'.1 16 (41 * s + i) = S.1 16 (41 * s + i)) (h9 : j_keep S S') : j_ent s c' S' := fun i h1 h2 => by
  obtain ⟨e1, e2, e3, e4⟩ := hS i h1 h2
  obtain ⟨a1, a2, a3, a4, a5, a6⟩ := h i h1 h2
  rw [hc.1, hc.2.1, hc.2.2.1, hc.2.2.2, e1, e2, e3, e4]
  exact ⟨a1, a2, a3, a4, a5, fun q => (h9 i h1 h2 (a6 q)).1⟩
theorem j_grp_c {s : Nat} {c c' : Nat → Nat → Int32} {S S' : nw_Q} {B B' : Nat} (h : j_grp s c S B) (hc : c' 7 = c 7 ∧ c' 8 = c 8 ∧ ∀ g, g < 6 → c' (10 + g) = c (10 + g)) (hB : B ≤ B') (hS : ∀ g, g < 6 → S'.1 10 (6 * s + g) = S.1 10 (6 * s + g) ∧ S'.1 11 (6 * s + g) = S.1 11 (6 * s + g)) (h17 : ∀ i g, 1 ≤ i → i ≤ 40 → g < 6 → S'.1 17 (6 * (41 * s + i) + g) = S.1 17 (6 * (41 * s + i) + g)) (h12 : ∀ i, 1 ≤ i → i ≤ 40 → S.1 12 (41 * s + i) = nI 1 ∨ S'.1 12 (41 * s + i) ≠ nI 1 ∨ S'.1 12 (41 * s + i) = S.1 12 (41 * s + i)) (h12' : ∀ i, 1 ≤ i → i ≤ 40 → S.1 12 (41 * s + i) = nI 1 → S'.1 12 (41 * s + i) = nI 1) : j_grp s c' S' B' := fun g hg => by
  obtain ⟨a1, a2, a3, k, a4, a5, a6⟩ := h g hg
  obtain ⟨e1, e2⟩ := hS g hg
  rw [hc.1, hc.2.1, hc.2.2 g hg, e1, e2]
  refine ⟨a1, a2, a3, k, Nat.le_trans a4 hB, a5, fun i h1 h2 => ?_⟩
  obtain ⟨b1, j, b2, b3, b4⟩ := a6 i h1 h2
  rw [h17 i g h1 h2 hg]
  exact ⟨b1, j, b2, b3, fun q => b4 (fun q' => q (h12' i h1 h2 q'))⟩
theorem q_ents_c {s : Nat} {S S' : nw_Q} (hS : ∀ i, 1 ≤ i → i ≤ 40 → S'.1 12 (41 * s + i) = S.1 12 (41 * s + i)) : q_ents S' s = q_ents S s := nw_ids_eq (fun i h1 h2 => by rw [hS i h1 h2])
theorem j_cnt_c {s : Nat} {c c' : Nat → Nat → Int32} {S S' : nw_Q} (h : j_cnt s c S) (hc : c' 3 = c 3) (hS : ∀ i, 1 ≤ i → i ≤ 40 → S'.1 12 (41 * s + i) = S.1 12 (41 * s + i)) : j_cnt s c' S' := by
  unfold j_cnt
  rw [q_ents_c hS, hc]
  exact h
theorem j_int_c {n s : Nat} {c c' : Nat → Nat → Int32} {S S' : nw_Q} (h : j_int n s c S) (hc : c' 6 = c 6) (hS : S'.1 21 s = S.1 21 s ∧ S'.1 22 s = S.1 22 s ∧ S'.1 24 s = S.1 24 s ∧ S'.1 25 s = S.1 25 s) (h12 : ∀ i, 1 ≤ i → i ≤ 40 → S'.1 12 (41 * s + i) = S.1 12 (41 * s + i)) (h9 : j_keep S S') : j_int n s c' S' := by
  unfold j_int
  rw [q_ents_c h12, hc, hS.1, hS.2.1, hS.2.2.1, hS.2.2.2]
  obtain ⟨h1, h2⟩ := h
  refine ⟨h1, ?_⟩
  rcases h2 with h2 | ⟨i, i1, i2, a1, a2, a3, a4, a5, a6, a7⟩
  · exact Or.inl h2
  · exact Or.inr ⟨i, i1, i2, a1, a2, a3, a4, (h9 i i1 i2 a5).1, by rw [h12 i i1 i2]; exact a6, a7⟩
theorem j_sel_c {s : Nat} {c c' : Nat → Nat → Int32} {S S' : nw_Q} {B B' : Nat} (h : j_sel s c S B) (hc : c' 0 = c 0) (hB : B ≤ B') (hS : S'.1 26 s = S.1 26 s ∧ S'.1 27 s = S.1 27 s) : j_sel s c' S' B' := by
  unfold j_sel
  rw [hc, hS.1, hS.2]
  obtain ⟨h1, h2, h3, h4⟩ := h
  refine ⟨h1, h2, h3, ?_⟩
  rcases h4 with h4 | ⟨h4, k, h5, h6, h7⟩
  · exact Or.inl h4
  · exact Or.inr ⟨h4, k, h5, by omega, h7⟩
theorem j_blk_c {o : Nat → Int32} {S S' : nw_Q} {i : Nat} {x : Int32} (h : j_blk o S i x) (h7 : S'.1 7 i = S.1 7 i) : j_blk o S' i x := by
  unfold j_blk
  rw [h7]
  exact h
theorem j_own_c {s : Nat} {o o' : Nat → Int32} {S S' : nw_Q} (h : j_own s o S) (ho : o' = o) (hS : S'.1 21 s = S.1 21 s ∧ S'.1 23 s = S.1 23 s) (h12 : ∀ i, 1 ≤ i → i ≤ 40 → S'.1 12 (41 * s + i) = S.1 12 (41 * s + i) ∧ S'.1 15 (41 * s + i) = S.1 15 (41 * s + i)) (h7 : ∀ i, 1 ≤ i → i ≤ 40 → S.1 12 (41 * s + i) = nI 1 ∨ S.1 21 s = nI i → S'.1 7 i = S.1 7 i) : j_own s o' S' := by
  rw [ho]
  refine ⟨h.1, fun i h1 h2 => ?_⟩
  obtain ⟨a1, a2, a3⟩ := h.2 i h1 h2
  rw [(h12 i h1 h2).1, (h12 i h1 h2).2, hS.1, hS.2]
  exact ⟨fun q => j_blk_c (a1 q) (h7 i h1 h2 (Or.inl q)), fun q => j_blk_c (a2 q) (h7 i h1 h2 (Or.inr q)), a3⟩
theorem j_pat_c {n s : Nat} {cl cl' : Nat → Int64} {S S' : nw_Q} (h : j_pat n s cl S) (hc : cl' = cl) (hS : ∀ t, t < n → S'.2 18 (4 * s + t) = S.2 18 (4 * s + t)) : j_pat n s cl' S' := fun t ht => by
  rw [hc, hS t ht]
  exact h t ht
theorem j_bl_c {n s : Nat} {c c' : Nat → Nat → Int32} {S S' : nw_Q} (h : j_bl n s c S) (hc : ∀ t, t < n → c' (20 + 2 * t) = c (20 + 2 * t) ∧ c' (21 + 2 * t) = c (21 + 2 * t)) (h20 : ∀ t, t < n → S'.1 20 (4 * s + t) = S.1 20 (4 * s + t)) (h19 : ∀ t k, t < n → k < 24 → S'.1 19 (24 * (4 * s + t) + k) = S.1 19 (24 * (4 * s + t) + k)) (h12 : ∀ i, 1 ≤ i → i ≤ 40 → S.1 12 (41 * s + i) = nI 1 → S'.1 12 (41 * s + i) = nI 1) : j_bl n s c' S' := fun t ht => by
  obtain ⟨q, q1, q2, q3, q4, q5, q6⟩ := h t ht
  rw [(hc t ht).1, (hc t ht).2, h20 t ht]
  refine ⟨q, q1, q2, q3, ?_, q5, fun x hx => ?_⟩
  · rw [q4]
    exact nw_pre_eq q (fun j hj => (h19 t j ht (by omega)).symm)
  · obtain ⟨i, i1, i2, i3, i4⟩ := q6 x hx
    exact ⟨i, i1, i2, i3, h12 i i1 i2 i4⟩
/-- rows of server s alike -/
def q_at (s : Nat) (S S' : nw_Q) : Prop :=
  (∀ i, 1 ≤ i → i ≤ 40 → S'.1 12 (41 * s + i) = S.1 12 (41 * s + i) ∧ S'.1 13 (41 * s + i) = S.1 13 (41 * s + i) ∧ S'.1 14 (41 * s + i) = S.1 14 (41 * s + i) ∧ S'.1 15 (41 * s + i) = S.1 15 (41 * s + i) ∧ S'.1 16 (41 * s + i) = S.1 16 (41 * s + i)) ∧
  (∀ g, g < 6 → S'.1 10 (6 * s + g) = S.1 10 (6 * s + g) ∧ S'.1 11 (6 * s + g) = S.1 11 (6 * s + g)) ∧ (∀ i g, 1 ≤ i → i ≤ 40 → g < 6 → S'.1 17 (6 * (41 * s + i) + g) = S.1 17 (6 * (41 * s + i) + g)) ∧
  (∀ f, 21 ≤ f → f < 28 → S'.1 f s = S.1 f s) ∧ (∀ t, t < 4 → S'.2 18 (4 * s + t) = S.2 18 (4 * s + t) ∧ S'.1 20 (4 * s + t) = S.1 20 (4 * s + t)) ∧ ∀ t k, t < 4 → k < 24 → S'.1 19 (24 * (4 * s + t) + k) = S.1 19 (24 * (4 * s + t) + k)
theorem j_srv_c {n s : Nat} {c c' : Nat → Nat → Int32} {cl cl' : Nat → Int64} {S S' : nw_Q} {B B' : Nat} (h : j_srv n s c cl S B) (hn : n ≤ 4) (hc : ∀ k, k < 20 + 2 * n → c' k = c k) (hcl : cl' = cl) (hB : B ≤ B') (ha : q_at s S S') (h9 : j_keep S S') : j_srv n s c' cl' S' B' := by
  obtain ⟨p1, p2, p3, p4, p5, p6, p7, p8⟩ := h
  obtain ⟨a1, a2, a3, a4, a5, a6⟩ := ha
  have a12 : ∀ i, 1 ≤ i → i ≤ 40 → S'.1 12 (41 * s + i) = S.1 12 (41 * s + i) := fun i h1 h2 => (a1 i h1 h2).1
  refine ⟨j_ent_c p1 ⟨hc 4 (by omega), hc 5 (by omega), hc 16 (by omega), hc 17 (by omega)⟩ (fun i h1 h2 => ⟨(a1 i h1 h2).1, (a1 i h1 h2).2.1, (a1 i h1 h2).2.2.1, (a1 i h1 h2).2.2.2.2⟩) h9,
    j_grp_c p2 ⟨hc 7 (by omega), hc 8 (by omega), fun g hg => hc (10 + g) (by omega)⟩ hB a2 a3 (fun i h1 h2 => Or.inr (Or.inr (a12 i h1 h2))) (fun i h1 h2 q => by rw [a12 i h1 h2]; exact q),
    j_cnt_c p3 (hc 3 (by omega)) a12, j_int_c p4 (hc 6 (by omega)) ⟨a4 21 (by omega) (by omega), a4 22 (by omega) (by omega), a4 24 (by omega) (by omega), a4 25 (by omega) (by omega)⟩ a12 h9,
    j_sel_c p5 (hc 0 (by omega)) hB ⟨a4 26 (by omega) (by omega), a4 27 (by omega) (by omega)⟩, ?_, j_pat_c p7 hcl (fun t ht => (a5 t (by omega)).1),
    j_bl_c p8 (fun t ht => ⟨hc _ (by omega), hc _ (by omega)⟩) (fun t ht => (a5 t (by omega)).2) (fun t k ht hk => a6 t k (by omega) hk) (fun i h1 h2 q => by rw [a12 i h1 h2]; exact q)⟩
  refine j_own_c p6 (hc 2 (by omega)) ⟨a4 21 (by omega) (by omega), a4 23 (by omega) (by omega)⟩ (fun i h1 h2 => ⟨a12 i h1 h2, (a1 i h1 h2).2.2.2.1⟩) (fun i h1 h2 q => ?_)
  rcases q with q | q
  · exact (h9 i h1 h2 ((p1 i h1 h2).2.2.2.2.2 q)).2
  · rcases p4.2 with r | ⟨j, j1, j2, b1, -, -, -, b5, -⟩
    · rw [r.1, nI_inj (by omega) (by omega)] at q
      omega
    · have : j = i := by
        rw [b1, nI_inj (by omega) (by omega)] at q
        exact q
      rw [this] at b5
      exact (h9 i h1 h2 b5).2
/-- a call's end: the answer, the relation behind it, nothing else touched -/
abbrev nw_rj (n B : Nat) (w : nw_W) (p : Int32 × nw_Q) : Option Value → nw_W → Prop := fun r w' => r = some (.int p.1) ∧ nw_J n w' p.2 (B + 1) ∧ nw_fm n w w'
theorem nw_fm_r (n : Nat) (w : nw_W) : nw_fm n w w := ⟨rfl, fun _ _ => ⟨rfl, rfl⟩⟩
theorem j_keep_r (S : nw_Q) : j_keep S S := fun _ _ _ h => ⟨h, rfl⟩
theorem q_at_r (s : Nat) (S : nw_Q) : q_at s S S := ⟨fun _ _ _ => ⟨rfl, rfl, rfl, rfl, rfl⟩, fun _ _ => ⟨rfl, rfl⟩, fun _ _ _ _ _ => rfl, fun _ _ _ => rfl, fun _ _ => ⟨rfl, rfl⟩, fun _ _ _ _ => rfl⟩
theorem nw_J_up {n B : Nat} {w : nw_W} {S : nw_Q} (h : nw_J n w S B) : nw_J n w S (B + 1) := ⟨h.1, h.2.1, h.2.2.1, h.2.2.2.1, fun s hs => j_srv_c (h.2.2.2.2 s hs) h.1.2.1 (fun _ _ => rfl) rfl (by omega) (q_at_r s S) (j_keep_r S)⟩
/-- a call that only asks -/
theorem nw_rj_q {n B : Nat} {w : nw_W} {S : nw_Q} {x : Int32} (h : nw_J n w S B) : nw_rj n B w (x, S) (some (.int x)) w := ⟨rfl, nw_J_up h, nw_fm_r n w⟩
theorem q_srv_k {S : nw_Q} {n : Nat} (h3 : S.1 3 0 = nI n) (x : Int32) : q_srv S x = k_srv n x := by
  unfold q_srv k_srv
  rw [h3]
