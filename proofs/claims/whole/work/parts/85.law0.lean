/-! the law: what its loop keeps -/
section LA
variable {n B : Nat} {w : nw_W} {S : nw_Q}
theorem nw_mod_lt {n a : Nat} {w : nw_W} {S : nw_Q} (h : a < nw_A n + 43) : nw_I (nw_mod n w S) a = nw_I w a ∧ nw_L (nw_mod n w S) a = nw_L w a := by
  have : ¬ nw_A n + 43 ≤ a := by omega
  exact ⟨if_neg this, if_neg this⟩
theorem nw_mod_mod (n : Nat) (w : nw_W) (S S' : nw_Q) : nw_mod n (nw_mod n w S) S' = nw_mod n w S' := by
  refine Prod.ext rfl (Prod.ext (funext fun a => ?_) (funext fun a => ?_))
  · show (if nw_A n + 43 ≤ a then S'.1 (a - (nw_A n + 40)) else (if nw_A n + 43 ≤ a then S.1 (a - (nw_A n + 40)) else nw_I w a)) = if nw_A n + 43 ≤ a then S'.1 (a - (nw_A n + 40)) else nw_I w a
    split <;> rfl
  · show (if nw_A n + 43 ≤ a then S'.2 (a - (nw_A n + 40)) else (if nw_A n + 43 ≤ a then S.2 (a - (nw_A n + 40)) else nw_L w a)) = if nw_A n + 43 ≤ a then S'.2 (a - (nw_A n + 40)) else nw_L w a
    split <;> rfl
theorem nw_J_mod {S' : nw_Q} (h : nw_J n w S B) : nw_J n (nw_mod n w S') S B := by
  obtain ⟨h1, h2, h3, h4, h5⟩ := h
  refine ⟨nw_Ok_1 (w := w) rfl h1, h2, ?_, fun i a b => ?_, fun s hs => ?_⟩
  · unfold j_glob
    rw [(nw_mod_lt (show 1 < nw_A n + 43 by omega)).1, (nw_mod_lt (show nw_A n + 42 < nw_A n + 43 by omega)).2]
    exact h3
  · rw [(nw_mod_lt (show nw_A n + 1 + i < nw_A n + 43 by omega)).1]
    exact h4 i a b
  · refine j_srv_c (h5 s hs) h1.2.1 (fun k hk => ?_) ?_ (Nat.le_refl _) (q_at_r s S) (j_keep_r S)
    · have := nw_S_lt (n := n) (s := s) (k := k) hs hk
      exact (nw_mod_lt (show nw_S n s k < nw_A n + 43 by omega)).1
    · have := nw_S_lt (n := n) (s := s) (k := 18) hs (by omega)
      exact (nw_mod_lt (show nw_S n s 18 < nw_A n + 43 by omega)).2
theorem nw_fm_mod {w' : nw_W} (h : nw_fm n w w') (hw : w = nw_mod n w S) : w' = nw_mod n w' S := by
  refine Prod.ext rfl (Prod.ext (funext fun a => ?_) (funext fun a => ?_))
  · show nw_I w' a = if nw_A n + 43 ≤ a then S.1 (a - (nw_A n + 40)) else nw_I w' a
    by_cases ha : nw_A n + 43 ≤ a
    · rw [if_pos ha, (h.2 a (Or.inr ha)).1, hw]
      exact if_pos ha
    · rw [if_neg ha]
  · show nw_L w' a = if nw_A n + 43 ≤ a then S.2 (a - (nw_A n + 40)) else nw_L w' a
    by_cases ha : nw_A n + 43 ≤ a
    · rw [if_pos ha, (h.2 a (Or.inr ha)).2, hw]
      exact if_pos ha
    · rw [if_neg ha]
theorem nw_J_le {B' : Nat} (h : nw_J n w S B) (hB : B ≤ B') : nw_J n w S B' := ⟨h.1, h.2.1, h.2.2.1, h.2.2.2.1, fun s hs => j_srv_c (h.2.2.2.2 s hs) h.1.2.1 (fun _ _ => rfl) rfl hB (q_at_r s S) (j_keep_r S)⟩
/-- the loop's own relation: L the script's length, sc the script -/
def nw_Lw (n L : Nat) (sc : Nat → Int32) (S : nw_Q) (k : Nat) (w : nw_W) : Prop := nw_J n w S k ∧ w = nw_mod n w S ∧ nw_ln w 0 = L ∧ nw_I w 0 = sc
theorem nw_Lw_q {L k k' : Nat} {sc : Nat → Int32} (h : nw_Lw n L sc S k w) (hk : k ≤ k') : nw_Lw n L sc S k' w := ⟨nw_J_le h.1 hk, h.2⟩
/-- behind the class's call -/
theorem nw_Lw_c {L k : Nat} {sc : Nat → Int32} {w' : nw_W} {S' : nw_Q} (h : nw_Lw n L sc S k w) (hJ : nw_J n w' S' (k + 1)) (hf : nw_fm n w w') : w' = nw_mod n w' S ∧ nw_ln w' 0 = L ∧ nw_I w' 0 = sc := ⟨nw_fm_mod hf h.2.1, by
  have : nw_ln w' = nw_ln w := by unfold nw_ln; rw [hf.1]
  rw [this]
  exact h.2.2.1, (hf.2 0 (Or.inl rfl)).1.trans h.2.2.2⟩
/-- behind both -/
theorem nw_Lw_m {L k : Nat} {sc : Nat → Int32} {w' : nw_W} {S' : nw_Q} (hJ : nw_J n w' S' (k + 1)) (hl : nw_ln w' 0 = L) (hi : nw_I w' 0 = sc) : nw_Lw n L sc S' (k + 1) (nw_mod n w' S') := ⟨nw_J_mod hJ, (nw_mod_mod n w' S' S').symm, hl, (nw_mod_lt (by omega)).1.trans hi⟩
-- what the reference asks
theorem j_h24 (hJ : nw_J n w S B) (b : Int32) : ∀ s i, s < n → 1 ≤ i → i ≤ 40 → S.1 21 s = nI i → ∀ t, t < n → ∃ q, q < 24 ∧ (q_file2 (q_rec1 S s b) s i).1 20 (4 * s + t) = nI q := by
  intro s i hs i1 i2 h21 t ht
  have hn4 := hJ.1.2.1
  obtain ⟨p1, p2, p3, p4, p5, p6, p7, p8⟩ := j_sv hJ hs
  obtain ⟨hE, hsd⟩ : q_ents S s < 24 ∧ (S.1 25 s = -1 ∨ ∃ t, t < n ∧ S.1 25 s = nI t) := by
    rcases p4.2 with ⟨a1, -⟩ | ⟨j, j1, j2, a1, a2, a3, a4, a5, a6, a7, a8, a9⟩
    · rw [a1, nI_inj (by omega) (by omega)] at h21
      omega
    · exact ⟨a7, a9⟩
  obtain ⟨q, q1, q2, q3, q4, q5, q6⟩ := p8 t ht
  have hq : q < 24 := by
    have := nw_nodup_le _ (fun j => decide (nI 0 < S.1 12 (41 * s + j))) q5 (fun x hx => by
      obtain ⟨j, j1, j2, j3, j4⟩ := q6 x hx
      exact ⟨j, j1, j2, j3, decide_eq_true (by rw [j4]; decide)⟩)
    rw [nw_pre_len] at this
    unfold q_ents at hE
    omega
  have e20 : (q_numF (q_file1 (q_rec1 S s b) s i) s i 6).1 20 = S.1 20 := by
    rw [q_numF_1 _ s i (by decide) (by decide)]
    rfl
  have e25 : (q_rec1 S s b).1 25 = S.1 25 := rfl
  unfold q_file2
  rw [e25]
  rcases hsd with hsd | ⟨t0, ht0, hsd⟩
  · rw [hsd, if_neg (by decide), e20]
    exact ⟨q, hq, q3⟩
  · rw [hsd, if_pos (by rw [nI_le' (by omega) (by omega)]; omega), nI_clamp (by omega)]
    by_cases hl : 4 * s + t = 4 * t0 + s
    · rw [hl, q_leaves_20, e20, ← hl, q3, nI_clamp (by omega)]
      have := q_lvF_le ((q_numF (q_file1 (q_rec1 S s b) s i) s i 6).1 19) (24 * (4 * s + t)) (nI i) q
      exact ⟨_, by omega, rfl⟩
    · rw [q_leaves_w hl, e20]
      exact ⟨q, hq, q3⟩
theorem j_first (hJ : nw_J n w S B) : ∀ s t, s < n → t < n → ¬ S.1 20 (4 * s + t) = nI 0 → ∃ i, 1 ≤ i ∧ i ≤ 40 ∧ S.1 19 (24 * (4 * s + t)) = nI i := by
  intro s t hs ht h0
  obtain ⟨q, q1, q2, q3, q4, q5, q6⟩ := (j_sv hJ hs).2.2.2.2.2.2.2 t ht
  have hq0 : 0 < q := Nat.pos_of_ne_zero (fun z => h0 (by rw [q3, z]))
  obtain ⟨i, i1, i2, i3, i4⟩ := q6 _ ((nw_pre_mem q).mpr ⟨0, hq0, rfl⟩)
  exact ⟨i, i1, i2, (nw_pre_inv q q4 0 hq0).symm.trans i3⟩
theorem j_s26 (hJ : nw_J n w S B) : ∀ s, s < n → S.1 26 s = -1 ∨ ∃ g, g < 6 ∧ S.1 26 s = nI g := fun s hs => (j_sv hJ hs).2.2.2.2.1.2.2.1
theorem j_s27 (hJ : nw_J n w S B) : ∀ s, s < n → ¬ S.1 27 s = -1 → ∃ g, g < 6 ∧ S.1 26 s = nI g := fun s hs h => by
  obtain ⟨-, -, h3, h4⟩ := (j_sv hJ hs).2.2.2.2.1
  rcases h4 with h4 | h4
  · exact absurd h4 h
  · exact h3.resolve_left h4.1
theorem j_s25 (hJ : nw_J n w S B) : ∀ s, s < n → ¬ S.1 21 s = nI 0 → S.1 25 s = -1 ∨ ∃ t, t < 4 ∧ S.1 25 s = nI t := fun s hs h => by
  have hn4 := hJ.1.2.1
  rcases (j_sv hJ hs).2.2.2.1.2 with ⟨a1, -⟩ | ⟨j, j1, j2, a1, a2, a3, a4, a5, a6, a7, a8, a9⟩
  · exact absurd a1 h
  · rcases a9 with a9 | ⟨t, ht, a9⟩
    · exact Or.inl a9
    · exact Or.inr ⟨t, by omega, a9⟩
theorem nw_i31 (x : Int32) : ∃ j, j < 32 ∧ x &&& nI 31 = nI j := by
  refine ⟨x.toBitVec.toNat % 32, Nat.mod_lt _ (by decide), ?_⟩
  apply Int32.toBitVec_inj.mp
  rw [Int32.toBitVec_and]
  apply BitVec.eq_of_toNat_eq
  rw [BitVec.toNat_and]
  show x.toBitVec.toNat &&& 31 = (BitVec.ofNat 32 (x.toBitVec.toNat % 32)).toNat
  rw [BitVec.toNat_ofNat, Nat.mod_eq_of_lt (a := x.toBitVec.toNat % 32) (by have := Nat.mod_lt x.toBitVec.toNat (show 0 < 32 by decide); omega)]
  exact Nat.and_two_pow_sub_one_eq_mod _ 5
theorem nw_l6 {L k : Nat} (hL : L ≤ 4000) (hk : k ≤ 8000) : (nI L - nI 6 < nI k) = (L < k + 6) := by
  by_cases h : 6 ≤ L
  · obtain ⟨m, rfl⟩ : ∃ m, L = m + 6 := ⟨L - 6, by omega⟩
    rw [← nI_add, Int32.add_sub_cancel, nI_lt' (by omega) (by omega)]
    exact propext (by omega)
  · have e : (nI L - nI 6).toInt < 0 := by
      rcases (show L = 0 ∨ L = 1 ∨ L = 2 ∨ L = 3 ∨ L = 4 ∨ L = 5 by omega) with rfl | rfl | rfl | rfl | rfl | rfl <;> decide
    rw [Int32.lt_iff_toInt_lt, nI_toInt (by omega)]
    exact propext (by omega)
end LA
section LB
variable {n : Nat} {w : nw_W}
set_option maxRecDepth 20000 in
theorem c_La_cell (j : Nat) (hj : j < 2) (hl : nw_ln w 0 ≤ 4000) : V mLa_cell 0 (nw_ent mLa_cell [.ref 0, .int (nI j)]) [] w 0 0 (nw_ri1 (if j < nw_ln w 0 then nw_I w 0 j else nI 0) w) := by
  have o : nw_oba w 0 := Or.inl rfl
  have hcj : (nI j).toNatClampNeg = j := nI_clamp (by omega)
  generalize hQ : nw_ri1 (if j < nw_ln w 0 then nw_I w 0 j else nI 0) w = Q
  rw [emLa_cell]
  (apply V_s1 [] 12; simp only [nwx_0, nwx_S, nw_s1, nw_pII, nw_pA, nw_tIs, nw_vis, nw_jpx, Option.isSome_some, Option.getD_some, nw_popn, nw_rok, nw_wok, nw_isR, nw_cd, nw_at, nw_put, nw_nl0, nw_nlS, nw_no2s, nw_ft, nw_l01, nw_ak, nw_tsw, nw_flat, Value.category, List.mem_cons, List.not_mem_nil, List.length_cons, List.length_nil, or_false, false_or, or_true, true_or, and_true, true_and, and_false, false_and, if_true, if_false, Option.some.injEq, Prod.mk.injEq, and_assoc, exists_and_left, exists_eq_left, exists_eq_left', exists_const, nw_ks, nw_f4, nw_fvs, nw_some, Nat.reduceAdd, nw_sz_I, nw_kd_I, nw_ln_I, nw_rf_I, nw_L_I, nw_I_I, nw_sz_L, nw_kd_L, nw_ln_L, nw_rf_L, nw_I_L, nw_L_L, nw_ob_I, nw_ob_L, nw_obr_I, nw_obr_L, nI_add, nw_b0, nw_b1, nw_b01, not_false_eq_true, not_true_eq_false, false_implies, true_implies, Classical.not_not, nw_i10, decide_eq_false_iff_not, decide_eq_true_eq, ne_eq, Option.toList_some, Option.toList_none, List.cons_append, List.nil_append, reduceIte, Nat.reduceEqDiff, Nat.reduceLT, Nat.reduceLeDiff, Nat.reduceSub, Nat.reduceMul, reduceCtorEq, ↓nwx_aload_n, ↓nwx_arraylength, ↓nwx_goto, ↓nwx_iaload, ↓nwx_iconst, ↓nwx_if_icmp, ↓nwx_iload_n, ↓nwx_ireturn, dmLa_cell_0, rmLa_cell, o, hcj]; try simp (disch := omega) only [nw_b0, nw_b1, nw_ilt, nw_ile, nw_ieq, nw_icl, nw_iin, nI_add, and_true, true_and, and_false, false_and, not_false_eq_true, not_true_eq_false, false_implies, true_implies, Classical.not_not, ne_eq, reduceIte, Nat.reduceEqDiff, Nat.reduceLT, Nat.reduceLeDiff, Nat.reduceAdd, Nat.reduceSub, Nat.reduceMul, o, hcj])
  rw [← hQ]
  refine ⟨fun h => ?_, fun h => ⟨by omega, ?_⟩⟩
  · rw [if_neg (by omega)]
    exact ⟨rfl, rfl⟩
  · rw [if_pos (by omega)]
    exact ⟨rfl, rfl⟩
end LB
