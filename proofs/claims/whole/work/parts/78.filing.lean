/-! what is received is filed: up to the lines -/
section NC
variable {n B : Nat} {w : nw_W} {S : nw_Q}
abbrev q_nc2 (S : nw_Q) (s i g : Nat) : Prop := bt (S.1 5 i) g = true ∧ q_carries S s g = true
theorem q_numF_at (S : nw_Q) {s i : Nat} (hi : i ≤ 40) : ∀ G, G ≤ 6 → q_chg s S (q_numF S s i G) ∧ (∀ g, g < 6 → (q_numF S s i G).1 11 (6 * s + g) = if g < G ∧ q_nc2 S s i g then S.1 11 (6 * s + g) + nI 1 else S.1 11 (6 * s + g)) ∧ ∀ j g, g < 6 → (q_numF S s i G).1 17 (6 * (41 * s + j) + g) = if j = i ∧ g < G then (if q_nc2 S s i g then S.1 11 (6 * s + g) + nI 1 else nI 0) else S.1 17 (6 * (41 * s + j) + g)
  | 0, _ => ⟨q_chg_r s S, fun g _ => by rw [if_neg (fun q => by omega)]; rfl, fun j g _ => by rw [if_neg (fun q => by omega)]; rfl⟩
  | G + 1, hG => by
    obtain ⟨h1, h2, h3⟩ := q_numF_at S hi G (by omega)
    have e11 : (q_numF S s i G).1 11 (6 * s + G) = S.1 11 (6 * s + G) := by
      rw [h2 G (by omega), if_neg (fun q => by omega)]
    have key : ∀ x y, x = (if q_nc2 S s i G then S.1 11 (6 * s + G) + nI 1 else S.1 11 (6 * s + G)) → y = (if q_nc2 S s i G then S.1 11 (6 * s + G) + nI 1 else nI 0) → q_chg s S (q_i (q_i (q_numF S s i G) 11 (6 * s + G) x) 17 (6 * (41 * s + i) + G) y) ∧ (∀ g, g < 6 → (q_i (q_i (q_numF S s i G) 11 (6 * s + G) x) 17 (6 * (41 * s + i) + G) y).1 11 (6 * s + g) = if g < G + 1 ∧ q_nc2 S s i g then S.1 11 (6 * s + g) + nI 1 else S.1 11 (6 * s + g)) ∧ ∀ j g, g < 6 → (q_i (q_i (q_numF S s i G) 11 (6 * s + G) x) 17 (6 * (41 * s + i) + G) y).1 17 (6 * (41 * s + j) + g) = if j = i ∧ g < G + 1 then (if q_nc2 S s i g then S.1 11 (6 * s + g) + nI 1 else nI 0) else S.1 17 (6 * (41 * s + j) + g) := fun x y hx hy => by
      refine ⟨q_chg_i (q_chg_i h1 (by omega)) (by omega), fun g hg => ?_, fun j g hg => ?_⟩
      · rw [q_i_x (by omega)]
        by_cases hgG : g = G
        · subst hgG
          refine pk_us.trans (hx.trans ?_)
          by_cases hc : q_nc2 S s i g
          · rw [if_pos hc, if_pos ⟨by omega, hc⟩]
          · rw [if_neg hc, if_neg (fun z => hc z.2)]
        · simp only [show (g < G + 1) = (g < G) from propext (by omega)]
          rw [q_i_x (by omega), h2 g hg]
      · by_cases hk : j = i ∧ g = G
        · rw [hk.1, hk.2, if_pos ⟨rfl, by omega⟩]
          exact pk_us.trans hy
        · rw [q_i_x (by omega), q_i_x (by omega), h3 j g hg]
          by_cases hji : j = i ∧ g < G
          · rw [if_pos hji, if_pos (show j = i ∧ g < G + 1 from ⟨hji.1, by omega⟩)]
          · rw [if_neg hji, if_neg (by omega)]
    simp only [q_numF]
    by_cases hc : q_nc2 S s i G
    · rw [if_pos hc, e11]
      exact key _ _ (if_pos hc).symm (if_pos hc).symm
    · rw [if_neg hc, e11]
      refine key _ _ ?_ (if_neg hc).symm
      rw [if_neg hc]
      exact Int32.add_zero _
theorem nw_J_fA {s i : Nat} {w1 : nw_W} {S1 : nw_Q} (hJ : nw_J n w S B) (hs : s < n) (i1 : 1 ≤ i) (i2 : i ≤ 40) (h21 : S.1 21 s = nI i) (hw1 : w1 = nw_setI w (nw_S n s 6) (upd (nw_I w (nw_S n s 6)) 1 (nI 0))) (hS1 : S1 = q_i S 22 s (nI 0)) : (nw_J n (k_f3 n s i w1) (q_numF (q_file1 S1 s i) s i 6) (B + 1) ∧ nw_fm n w (k_f3 n s i w1)) ∧ nw_chg n s w (k_f3 n s i w1) ∧ ∀ k, 20 ≤ k → nw_I (k_f3 n s i w1) (nw_S n s k) = nw_I w (nw_S n s k) := by
  have hn4 := hJ.1.2.1
  obtain ⟨p1, p2, p3, p4, p5, p6, p7, p8⟩ := j_sv hJ hs
  -- what is being received
  obtain ⟨g61, g62, h9, h12, hE⟩ : nw_I w (nw_S n s 6) 2 = S.1 24 s ∧ nw_I w (nw_S n s 6) 3 = S.1 25 s ∧ S.1 9 i = nI 1 ∧ S.1 12 (41 * s + i) = nI 0 ∧ q_ents S s < 24 := by
    rcases p4.2 with ⟨a1, -⟩ | ⟨j, j1, j2, a1, a2, a3, a4, a5, a6, a7, -⟩
    · rw [a1, nI_inj (by omega) (by omega)] at h21
      omega
    · rw [a1, nI_inj (by omega) (by omega)] at h21
      subst h21
      exact ⟨a3, a4, a5, a6, a7⟩
  have hclk : nw_I w 1 5 = S.1 3 2 := hJ.2.2.1.2.2.1
  have hE3 : nw_I w (nw_S n s 3) 2 = nI (q_ents S s) := p3.1
  have hx : nw_I w (nw_A n + 1 + i) 2 = S.1 5 i := (hJ.2.2.2.1 i i1 i2).2.1
  have hU : k_until n w i = q_later S i := k_until_q hJ i1 i2
  have hAne : ∀ k, k < 20 + 2 * n → nw_A n + 1 + i ≠ nw_S n s k := fun k hk => by
    have := nw_S_lt hs hk
    omega
  have wI : ∀ a, a ≠ nw_S n s 6 → nw_I w1 a = nw_I w a := fun a ha => by rw [hw1, nw_I_I, va_up_ne _ _ ha]
  have wk : ∀ k, k ≠ 6 → nw_I w1 (nw_S n s k) = nw_I w (nw_S n s k) := fun k hk => wI _ (by rw [Ne, nw_Sk]; exact hk)
  have w6 : nw_I w1 (nw_S n s 6) = upd (nw_I w (nw_S n s 6)) 1 (nI 0) := by rw [hw1, nw_S_Ieq]
  have w62 : nw_I w1 (nw_S n s 6) 2 = S.1 24 s := by rw [w6, pk_un (by decide)]; exact g61
  have wA : nw_I w1 (nw_A n + 1 + i) = nw_I w (nw_A n + 1 + i) := wI _ (hAne 6 (by omega))
  have w11 : nw_I w1 1 = nw_I w 1 := wI _ nw_1_ne
  have wU : k_until n w1 i = q_later S i := by
    unfold k_until at hU ⊢
    rw [w11, wA]
    exact hU
  -- the world behind the numbers
  obtain ⟨X, hX⟩ : ∃ X, X = nw_setI (nw_setI (k_f1 n s w1) (nw_S n s 17) (upd (nw_I w1 (nw_S n s 17)) i (nw_I w1 (nw_S n s 6) 2))) (nw_S n s 16) (upd (nw_I w1 (nw_S n s 16)) i (nw_I w1 1 5)) := ⟨_, rfl⟩
  obtain ⟨W2, hW2⟩ : ∃ W2, W2 = k_f2 n s i w1 := ⟨_, rfl⟩
  have hW2X : W2 = nw_hold n s i (nw_I w1 (nw_A n + 1 + i) 2) X 6 := by rw [hW2, hX]; rfl
  obtain ⟨z1, z2, z3, z5, z4⟩ := nw_hold_ok n s i (nw_I w1 (nw_A n + 1 + i) 2) X 6 (Nat.le_refl _)
  rw [← hW2X] at z1 z2 z3 z4 z5
  obtain ⟨y1, y2, y3⟩ := k_f2_ok (n := n) (s := s) (i := i) (w := w1)
  rw [← hW2] at y1 y2 y3
  have Xk : ∀ k, k ≠ 6 → k ≠ 16 → k ≠ 17 → nw_I X (nw_S n s k) = nw_I w (nw_S n s k) := fun k k6 k16 k17 => by
    rw [hX, nw_S_Ine k16, nw_S_Ine k17]
    unfold k_f1
    rw [nw_S_Ine k6, wk k k6]
  have z3k : ∀ k, k ≠ 8 → (k < 10 ∨ 15 < k) → nw_I W2 (nw_S n s k) = nw_I X (nw_S n s k) := fun k k8 kg => z3 _ (by rw [Ne, nw_Sk]; exact k8) (fun g hg => by rw [Ne, nw_Sk]; omega)
  have X6 : nw_I X (nw_S n s 6) = upd (upd (upd (upd (nw_I w1 (nw_S n s 6)) 0 (nI 0)) 1 (nI 0)) 2 (nI 0)) 3 (-1) := by
    rw [hX, nw_S_Ine (by decide), nw_S_Ine (by decide)]
    unfold k_f1
    rw [nw_S_Ieq]
  have X16 : nw_I X (nw_S n s 16) = upd (nw_I w (nw_S n s 16)) i (S.1 3 2) := by
    rw [hX, nw_S_Ieq, wk 16 (by decide), w11, hclk]
  have X17 : nw_I X (nw_S n s 17) = upd (nw_I w (nw_S n s 17)) i (S.1 24 s) := by
    rw [hX, nw_S_Ine (by decide), nw_S_Ieq, wk 17 (by decide), w62]
  -- and behind the entry
  obtain ⟨W3, hW3⟩ : ∃ W3, W3 = k_f3 n s i w1 := ⟨_, rfl⟩
  rw [← hW3]
  have hW3e : W3 = nw_setI (nw_setI (nw_setI W2 (nw_S n s 4) (upd (nw_I W2 (nw_S n s 4)) i (nI 1))) (nw_S n s 5) (upd (nw_I W2 (nw_S n s 5)) i (q_later S i))) (nw_S n s 3) (upd (nw_I W2 (nw_S n s 3)) 2 (nI (q_ents S s + 1))) := by
    have e3 : nw_I W2 (nw_S n s 3) 2 = nI (q_ents S s) := by rw [z3k 3 (by decide) (by omega), Xk 3 (by decide) (by decide) (by decide)]; exact hE3
    rw [hW3]
    unfold k_f3 k_enter
    rw [← hW2, e3, if_neg (by rw [nI_le' (by omega) (by omega)]; omega), wU, nI_add]
  have c3k : ∀ k, k ≠ 3 → k ≠ 4 → k ≠ 5 → nw_c n W3 s k = nw_I W2 (nw_S n s k) := fun k k3 k4 k5 => by
    show nw_I W3 (nw_S n s k) = _
    rw [hW3e, nw_S_Ine k3, nw_S_Ine k5, nw_S_Ine k4]
  have cO : ∀ k, k < 3 ∨ k = 7 ∨ k = 9 ∨ 17 < k → nw_c n W3 s k = nw_c n w s k := fun k hk => by
    rw [c3k k (by omega) (by omega) (by omega), z3k k (by omega) (by omega), Xk k (by omega) (by omega) (by omega)]
    rfl
  have c3 : nw_c n W3 s 3 = upd (nw_I w (nw_S n s 3)) 2 (nI (q_ents S s + 1)) := by
    show nw_I W3 (nw_S n s 3) = _
    rw [hW3e, nw_S_Ieq, z3k 3 (by decide) (by omega), Xk 3 (by decide) (by decide) (by decide)]
  have c4 : nw_c n W3 s 4 = upd (nw_c n w s 4) i (nI 1) := by
    show nw_I W3 (nw_S n s 4) = _
    rw [hW3e, nw_S_Ine (by decide), nw_S_Ine (by decide), nw_S_Ieq, z3k 4 (by decide) (by omega), Xk 4 (by decide) (by decide) (by decide)]
    rfl
  have c5 : nw_c n W3 s 5 = upd (nw_c n w s 5) i (q_later S i) := by
    show nw_I W3 (nw_S n s 5) = _
    rw [hW3e, nw_S_Ine (by decide), nw_S_Ieq, z3k 5 (by decide) (by omega), Xk 5 (by decide) (by decide) (by decide)]
    rfl
  have c6 : nw_c n W3 s 6 = upd (upd (upd (upd (nw_I w1 (nw_S n s 6)) 0 (nI 0)) 1 (nI 0)) 2 (nI 0)) 3 (-1) := by
    rw [c3k 6 (by decide) (by decide) (by decide), z3k 6 (by decide) (by omega), X6]
  have c16 : nw_c n W3 s 16 = upd (nw_c n w s 16) i (S.1 3 2) := by
    rw [c3k 16 (by decide) (by decide) (by decide), z3k 16 (by decide) (by omega), X16]
    rfl
  have c17 : nw_c n W3 s 17 = upd (nw_c n w s 17) i (S.1 24 s) := by
    rw [c3k 17 (by decide) (by decide) (by decide), z3k 17 (by decide) (by omega), X17]
    rfl
  have hcg : ∀ g, g < 6 → ((bt (S.1 5 i) g = true ∧ nI 0 < nw_I X (nw_S n s 7) g) ↔ q_nc2 S s i g) := fun g hg => by
    have a1 : nw_I w (nw_S n s 7) g = S.1 10 (6 * s + g) := (p2 g hg).1
    unfold q_nc2 q_carries
    rw [Xk 7 (by decide) (by decide) (by decide), a1, decide_eq_true_eq]
  have c8 : ∀ g, g < 6 → nw_c n W3 s 8 g = if q_nc2 S s i g then nw_c n w s 8 g + nI 1 else nw_c n w s 8 g := fun g hg => by
    rw [c3k 8 (by decide) (by decide) (by decide), z5 g, wA, hx, Xk 8 (by decide) (by decide) (by decide)]
    by_cases hc : q_nc2 S s i g
    · rw [if_pos ⟨hg, (hcg g hg).mpr hc⟩, if_pos hc]
      rfl
    · rw [if_neg (fun z => hc ((hcg g hg).mp z.2)), if_neg hc]
      rfl
  have c10 : ∀ g, g < 6 → nw_c n W3 s (10 + g) = if q_nc2 S s i g then upd (nw_c n w s (10 + g)) i (nw_c n w s 8 g + nI 1) else nw_c n w s (10 + g) := fun g hg => by
    rw [c3k (10 + g) (by omega) (by omega) (by omega), z4 g hg, wA, hx, Xk 8 (by decide) (by decide) (by decide), Xk (10 + g) (by omega) (by omega) (by omega)]
    by_cases hc : q_nc2 S s i g
    · rw [if_pos ((hcg g hg).mpr hc), if_pos hc]
      rfl
    · rw [if_neg (fun z => hc ((hcg g hg).mp z)), if_neg hc]
      rfl
  have hch : nw_chg n s w W3 := by
    rw [hW3e]
    refine nw_chg_I (nw_chg_I (nw_chg_I ⟨?_, fun a ha => ⟨?_, ?_⟩⟩ (by omega) _) (by omega) _) (by omega) _
    · rw [y1, hw1]
      rfl
    · rw [y3 a (ha 6 (by omega)) (ha 8 (by omega)) (ha 16 (by omega)) (ha 17 (by omega)) (fun g hg => ha _ (by omega)), wI a (ha 6 (by omega))]
    · rw [y2, hw1]
      rfl
  -- the reference's rows
  obtain ⟨F, hF⟩ : ∃ F, F = q_file1 S1 s i := ⟨_, rfl⟩
  obtain ⟨S', hS'⟩ : ∃ S', S' = q_numF F s i 6 := ⟨_, rfl⟩
  rw [← hF, ← hS']
  obtain ⟨f1, f2, f3⟩ := q_numF_at F (s := s) i2 6 (Nat.le_refl _)
  rw [← hS'] at f1 f2 f3
  have eF : ∀ f, f ≠ 11 → f ≠ 17 → S'.1 f = F.1 f := fun f a b => by rw [hS']; exact q_numF_1 F s i a b 6
  have hFe : F = q_i (q_i (q_i (q_i (q_i (q_i (q_i S 22 s (nI 0)) 21 s (nI 0)) 12 (41 * s + i) (nI 1)) 13 (41 * s + i) (q_later S i)) 14 (41 * s + i) (S.1 3 2)) 15 (41 * s + i) (S.1 23 s)) 16 (41 * s + i) (S.1 24 s) := by
    rw [hF, hS1]
    rfl
  have eL : ∀ f, f < 12 ∨ (17 ≤ f ∧ f ≠ 21 ∧ f ≠ 22) → F.1 f = S.1 f := fun f hf => by
    rw [hFe, q_i_1, if_neg (by omega), q_i_1, if_neg (by omega), q_i_1, if_neg (by omega), q_i_1, if_neg (by omega), q_i_1, if_neg (by omega), q_i_1, if_neg (by omega), q_i_1, if_neg (by omega)]
  have eS : ∀ f, f < 11 ∨ (17 < f ∧ f ≠ 21 ∧ f ≠ 22) → S'.1 f = S.1 f := fun f hf => (eF f (by omega) (by omega)).trans (eL f (by omega))
  have s12 : S'.1 12 = upd (S.1 12) (41 * s + i) (nI 1) := by rw [eF 12 (by decide) (by decide), hFe]; rfl
  have s13 : S'.1 13 = upd (S.1 13) (41 * s + i) (q_later S i) := by rw [eF 13 (by decide) (by decide), hFe]; rfl
  have s14 : S'.1 14 = upd (S.1 14) (41 * s + i) (S.1 3 2) := by rw [eF 14 (by decide) (by decide), hFe]; rfl
  have s15 : S'.1 15 = upd (S.1 15) (41 * s + i) (S.1 23 s) := by rw [eF 15 (by decide) (by decide), hFe]; rfl
  have s16 : S'.1 16 = upd (S.1 16) (41 * s + i) (S.1 24 s) := by rw [eF 16 (by decide) (by decide), hFe]; rfl
  have s21 : S'.1 21 = upd (S.1 21) s (nI 0) := by rw [eF 21 (by decide) (by decide), hFe]; rfl
  have hnc : ∀ g, q_nc2 F s i g ↔ q_nc2 S s i g := fun g => by
    unfold q_nc2 q_carries
    rw [eL 5 (by omega), eL 10 (by omega)]
  have s11 : ∀ g, g < 6 → S'.1 11 (6 * s + g) = if q_nc2 S s i g then S.1 11 (6 * s + g) + nI 1 else S.1 11 (6 * s + g) := fun g hg => by
    rw [f2 g hg, eL 11 (by omega)]
    by_cases hc : q_nc2 S s i g
    · rw [if_pos ⟨hg, (hnc g).mpr hc⟩, if_pos hc]
    · rw [if_neg (fun z => hc ((hnc g).mp z.2)), if_neg hc]
  have s17 : ∀ j g, g < 6 → S'.1 17 (6 * (41 * s + j) + g) = if j = i then (if q_nc2 S s i g then S.1 11 (6 * s + g) + nI 1 else nI 0) else S.1 17 (6 * (41 * s + j) + g) := fun j g hg => by
    rw [f3 j g hg, eL 11 (by omega), eL 17 (by omega)]
    by_cases hji : j = i
    · rw [if_pos ⟨hji, hg⟩, if_pos hji]
      by_cases hc : q_nc2 S s i g
      · rw [if_pos ((hnc g).mpr hc), if_pos hc]
      · rw [if_neg (fun z => hc ((hnc g).mp z)), if_neg hc]
    · rw [if_neg (fun z => hji z.1), if_neg hji]
  have hqc : q_chg s S S' := q_chg_t (by
    rw [hFe]
    exact q_chg_i (q_chg_i (q_chg_i (q_chg_i (q_chg_i (q_chg_i (q_chg_i (q_chg_r s S) (by omega)) (by omega)) (by omega)) (by omega)) (by omega)) (by omega)) (by omega)) f1
  have kp := q_chg_kp hqc
  have s12j : ∀ j, j ≠ i → S'.1 12 (41 * s + j) = S.1 12 (41 * s + j) := fun j hj => by rw [s12, pk_un (by omega)]
  have s12i : S'.1 12 (41 * s + i) = nI 1 := by rw [s12, pk_us]
  have hents : q_ents S' s = q_ents S s + 1 := nw_ids_up i1 i2 (decide_eq_false (by rw [h12]; decide)) (fun j j1 j2 => by
    by_cases hji : j = i
    · rw [if_pos hji, hji, s12i]
      rfl
    · rw [if_neg hji, s12j j hji])
  obtain ⟨r1, r2, r3⟩ := hJ.2.1
  refine ⟨nw_J_q hJ hs (by omega) hch ⟨fun l hl => by rw [eS 20 (by omega)]; exact r1 l hl, fun t ht => ?_, fun j hj => by rw [eS 8 (by omega)]; exact r3 j hj⟩ hqc ?_, hch, fun k hk => cO k (by omega)⟩
  · rw [s21]
    by_cases hts : t = s
    · rw [hts, pk_us]
      exact ⟨0, by omega, rfl⟩
    · rw [pk_un hts]
      exact r2 t ht
  · refine ⟨fun j j1 j2 => ?_, fun g hg => ?_, ?_, ?_, j_sel_c p5 (cO 0 (by omega)) (by omega) ⟨by rw [eS 26 (by omega)], by rw [eS 27 (by omega)]⟩, ?_, j_pat_c p7 (by rw [hW3e, nw_L_I, nw_L_I, nw_L_I, y2, hw1]; rfl) (fun t _ => by rw [hqc.1]), j_bl_c p8 (fun t ht => ⟨cO _ (by omega), cO _ (by omega)⟩) (fun t _ => by rw [eS 20 (by omega)]) (fun t k _ _ => by rw [eS 19 (by omega)]) (fun j j1 j2 q => ?_)⟩
    · obtain ⟨a1, a2, a3, a4, a5, a6⟩ := p1 j j1 j2
      rw [c4, c5, c16, c17, s13, s14, s16]
      by_cases hji : j = i
      · subst hji
        rw [pk_us, pk_us, pk_us, pk_us, pk_us, pk_us, pk_us, s12i]
        exact ⟨rfl, rfl, rfl, rfl, ⟨1, by omega, rfl⟩, fun _ => (kp j j1 j2 h9).1⟩
      · rw [pk_un hji, pk_un hji, pk_un hji, pk_un hji, pk_un (show 41 * s + j ≠ 41 * s + i by omega), pk_un (show 41 * s + j ≠ 41 * s + i by omega), pk_un (show 41 * s + j ≠ 41 * s + i by omega), s12j j hji]
        exact ⟨a1, a2, a3, a4, a5, fun q => (kp j j1 j2 (a6 q)).1⟩
    · obtain ⟨a1, a2, a3, h, a4, a5, a6⟩ := p2 g hg
      rw [cO 7 (by omega), c8 g hg, c10 g hg, eS 10 (by omega), s11 g hg]
      by_cases hc : q_nc2 S s i g
      · rw [if_pos hc, if_pos hc, if_pos hc, a2, a5, nI_add]
        refine ⟨a1, rfl, a3, h + 1, by omega, rfl, fun j j1 j2 => ?_⟩
        rw [s17 j g hg]
        by_cases hji : j = i
        · rw [if_pos hji, if_pos hc, hji, pk_us, a5, nI_add]
          exact ⟨rfl, h + 1, Nat.le_refl _, rfl, fun q => absurd s12i q⟩
        · rw [if_neg hji, pk_un hji, s12j j hji]
          obtain ⟨d1, k, d2, d3, d4⟩ := a6 j j1 j2
          exact ⟨d1, k, by omega, d3, d4⟩
      · rw [if_neg hc, if_neg hc, if_neg hc]
        refine ⟨a1, a2, a3, h, by omega, a5, fun j j1 j2 => ?_⟩
        rw [s17 j g hg]
        obtain ⟨d1, k, d2, d3, d4⟩ := a6 j j1 j2
        by_cases hji : j = i
        · rw [if_pos hji, if_neg hc]
          have hk0 : k = 0 := d4 (by rw [hji, h12]; decide)
          exact ⟨by rw [d1, d3, hk0], 0, by omega, rfl, fun _ => rfl⟩
        · rw [if_neg hji, s12j j hji]
          exact ⟨d1, k, d2, d3, d4⟩
    · unfold j_cnt
      rw [hents, c3, pk_us]
      exact ⟨rfl, by omega⟩
    · unfold j_int
      rw [s21, pk_us, c6]
      exact ⟨by rw [pk_un (by decide), pk_un (by decide), pk_un (by decide), pk_us], Or.inl ⟨rfl, by rw [pk_un (by decide), pk_un (by decide), pk_us]⟩⟩
    · obtain ⟨o1, o2⟩ := p6
      rw [cO 2 (by omega)]
      refine ⟨o1, fun j j1 j2 => ?_⟩
      obtain ⟨a1, a2, a3⟩ := o2 j j1 j2
      rw [s21, pk_us, s15]
      by_cases hji : j = i
      · subst hji
        rw [pk_us, s12i]
        exact ⟨fun _ => j_blk_c (a2 h21) (by rw [eS 7 (by omega)]), fun q => by rw [nI_inj (by omega) (by omega)] at q; omega, fun q => absurd rfl q⟩
      · rw [pk_un (show 41 * s + j ≠ 41 * s + i by omega), s12j j hji]
        refine ⟨fun q => j_blk_c (a1 q) (by rw [eS 7 (by omega)]), fun q => by rw [nI_inj (by omega) (by omega)] at q; omega, fun q _ => a3 q ?_⟩
        rw [h21, ne_eq, nI_inj (by omega) (by omega)]
        exact fun z => hji z.symm
    · by_cases hji : j = i
      · rw [hji]
        exact s12i
      · rw [s12j j hji]
        exact q
end NC
