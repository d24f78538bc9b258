/-! numbers and texts, nothing of the machine -/
def nw_b (p : Bool) : Int32 := if p = true then nI 1 else nI 0
theorem nw_b_t : nw_b true = nI 1 := rfl
theorem nw_b_f : nw_b false = nI 0 := rfl
theorem nw_b0 (p : Bool) : (nw_b p = nI 0) = (p = false) := by cases p <;> decide
theorem nw_b1 (p : Bool) : (nw_b p = nI 1) = (p = true) := by cases p <;> decide
theorem nw_b01 (p : Bool) : (nw_b p = nI 0 ∨ nw_b p = nI 1) = True := by cases p <;> decide
theorem nw_ilt {a b : Nat} (ha : a < 2147483648) (hb : b < 2147483648) : (nI a < nI b) = (a < b) := propext (nI_ltI ha hb)
theorem nw_ile {a b : Nat} (ha : a < 2147483648) (hb : b < 2147483648) : (nI a ≤ nI b) = (a ≤ b) := propext (nI_leI ha hb)
theorem nw_ieq {a b : Nat} (ha : a < 2147483648) (hb : b < 2147483648) : (nI a = nI b) = (a = b) := propext (nI_eq ha hb)
theorem nw_icl {a : Nat} (ha : a < 2147483648) : (nI a).toNatClampNeg = a := nI_clamp ha
theorem nw_iin {a N : Nat} (ha : a < 2147483648) : vp_in (nI a) N = (a < N) := propext (by
  rw [vp_in_iff, nI_toInt ha]
  omega)
theorem nw_im1 {a : Nat} (ha : a < 2147483648) : (nI a = -1) = False := by
  apply propext
  constructor
  · intro h
    have := congrArg Int32.toInt h
    rw [nI_toInt ha] at this
    have e : (-1 : Int32).toInt = -1 := by decide
    rw [e] at this
    omega
  · exact False.elim
theorem nw_cmp0 (x y : Int64) : (lg_cmp x y = nI 0) = (x = y) := propext (lg_cmp_eq x y)
theorem nw_iof {x : Int32} (h : nI 0 ≤ x) : ∃ k : Nat, k < 2147483648 ∧ x = nI k := nI_of (by
  rw [Int32.not_lt]; exact h)
def nw_ch (t : Int64) (j : Nat) : Nat := uN t / 2 ^ (8 * j) % 256
theorem nw_ch_lt (t : Int64) (j : Nat) : nw_ch t j < 256 := Nat.mod_lt _ (by decide)
theorem nw_ch_b (t : Int64) (j : Nat) : nw_ch t j < 2147483648 := Nat.lt_trans (nw_ch_lt t j) (by decide)
theorem nw_low (x : Int64) : x.toInt32 &&& nI 255 = nI (uN x % 256) := by
  rw [pk_and x.toInt32 (m := nI 255) 8 (by decide +kernel)]
  congr 1
  have h : x.toInt32.toBitVec.toNat = uN x % 4294967296 := by
    rw [Int64.toBitVec_toInt32, BitVec.signExtend_eq_setWidth_of_le _ (by decide), BitVec.toNat_setWidth]
    rfl
  rw [h]
  omega
theorem nw_chC {t : Int64} {j : Nat} (hj : j < 8) : (nw_ushr t (nI 8 * nI j)).toInt32 &&& nI 255 = nI (nw_ch t j) := by
  rw [pk_mul, nw_low]
  unfold nw_ushr nw_ch
  rw [uN_sk t (by omega)]
theorem nw_chM {t : Int64} {j : Nat} (hj : j < 8) : (t >>> ((nI 8 * nI j).toInt64 &&& 63)).toInt32 &&& nI 255 = nI (nw_ch t j) := by
  rw [pk_mul, nw_low]
  congr 1
  unfold nw_ch
  rw [wb_c _ (by omega)]
  have h : (t >>> lN (8 * j)).toBitVec = t.toBitVec.sshiftRight (8 * j) := by
    rw [Int64.toBitVec_shiftRight, lN_bv, wb_sm _ (by omega)]
    show t.toBitVec.sshiftRight (BitVec.ofNat 64 (8 * j)).toNat = _
    rw [BitVec.toNat_ofNat, Nat.mod_eq_of_lt (by omega)]
  show (t >>> lN (8 * j)).toBitVec.toNat % 2 ^ 8 = t.toBitVec.toNat / 2 ^ (8 * j) % 2 ^ 8
  rw [h]
  apply Nat.eq_of_testBit_eq
  intro i
  rw [Nat.testBit_mod_two_pow, Nat.testBit_mod_two_pow, Nat.testBit_div_two_pow, BitVec.testBit_toNat, BitVec.testBit_toNat, BitVec.getLsbD_sshiftRight]
  by_cases hi : i < 8
  · have h1 : ¬ 64 ≤ i := by omega
    have h2 : 8 * j + i < 64 := by omega
    rw [Nat.add_comm i (8 * j)]
    simp [hi, h1, h2]
  · simp [hi]
theorem nw_chL {t : Int64} {j : Nat} (hj : j < 8) : nw_ushr t (nI 8 * nI j) &&& 255 = lN (nw_ch t j) := by
  rw [pk_mul]
  unfold nw_ushr nw_ch
  obtain ⟨n, hn, rfl⟩ := wb_of t
  rw [wb_shr hn (by omega)]
  have e : (255 : Int64) = lN (2 ^ 8 - 1) := by decide
  rw [e, wb_mask (Nat.lt_of_le_of_lt (Nat.div_le_self _ _) hn) (by omega)]
  congr 1
  show _ = (lN n).toBitVec.toNat / 2 ^ (8 * j) % 2 ^ 8
  rw [wb_tn hn]
theorem nw_lN_i {c : Nat} (h : c < 2147483648) : (nI c).toInt64 = lN c := nI_l h
theorem nw_lN_eq {a b : Nat} (ha : a < 2147483648) (hb : b < 2147483648) : (lN a = lN b) = (a = b) := propext (lN_eq ha hb)
-- a text: its characters up to the first zero
def nw_lenF (t : Int64) : Nat → Nat → Nat
  | 0, j => j
  | d + 1, j => if nw_ch t j = 0 then j else nw_lenF t d (j + 1)
def nw_len (t : Int64) : Nat := nw_lenF t 8 0
theorem nw_lenF_ok (t : Int64) : ∀ d j : Nat, j ≤ nw_lenF t d j ∧ nw_lenF t d j ≤ j + d ∧ (∀ i, j ≤ i → i < nw_lenF t d j → nw_ch t i ≠ 0) ∧ (nw_lenF t d j < j + d → nw_ch t (nw_lenF t d j) = 0)
  | 0, j => ⟨Nat.le_refl _, Nat.le_refl _, fun i h1 h2 => absurd h1 (by simp only [nw_lenF] at h2; omega), fun h => by simp only [nw_lenF] at h; omega⟩
  | d + 1, j => by
    obtain ⟨h1, h2, h3, h4⟩ := nw_lenF_ok t d (j + 1)
    by_cases hz : nw_ch t j = 0
    · simp only [nw_lenF, if_pos hz]
      exact ⟨Nat.le_refl _, by omega, fun i a b => absurd a (by omega), fun _ => hz⟩
    · simp only [nw_lenF, if_neg hz]
      refine ⟨by omega, by omega, fun i a b => ?_, fun a => h4 (by omega)⟩
      by_cases hi : i = j
      · subst hi; exact hz
      · exact h3 i (by omega) b
theorem nw_len_le (t : Int64) : nw_len t ≤ 8 := by
  have := (nw_lenF_ok t 8 0).2.1
  unfold nw_len
  omega
theorem nw_len_b (t : Int64) : nw_len t < 2147483648 := Nat.lt_of_le_of_lt (nw_len_le t) (by decide)
theorem nw_len_in (t : Int64) {i : Nat} (h : i < nw_len t) : nw_ch t i ≠ 0 := (nw_lenF_ok t 8 0).2.2.1 i (Nat.zero_le _) h
theorem nw_len_at (t : Int64) (h : nw_len t < 8) : nw_ch t (nw_len t) = 0 := (nw_lenF_ok t 8 0).2.2.2 (by unfold nw_len at h; omega)
theorem nw_len_un {t : Int64} {L : Nat} (h1 : L ≤ 8) (h2 : ∀ i, i < L → nw_ch t i ≠ 0) (h3 : L < 8 → nw_ch t L = 0) : nw_len t = L := by
  have a := nw_len_le t
  rcases Nat.lt_trichotomy (nw_len t) L with h | h | h
  · exact absurd (nw_len_at t (by omega)) (h2 _ h)
  · exact h
  · exact absurd (h3 (by omega)) (nw_len_in t h)
def nw_plain (c : Nat) : Bool := decide (97 ≤ c ∧ c ≤ 122) || decide (c = 46)
def nw_sign (c : Nat) : Bool := decide (c = 42 ∨ c = 63 ∨ c = 33 ∨ c = 44)
def nw_okc2 (pat : Bool) (c : Nat) : Bool := nw_plain c || (pat && nw_sign c)
/-- a text as the document has it -/
def nw_txt (pat : Bool) (t : Int64) : Prop := 1 ≤ nw_len t ∧ (∀ i, i < nw_len t → nw_okc2 pat (nw_ch t i) = true) ∧ ∀ i, nw_len t ≤ i → i < 8 → nw_ch t i = 0
theorem nw_okc2_0 (pat : Bool) : nw_okc2 pat 0 = false := by cases pat <;> decide
theorem nw_low0 (t : Int64) : ∀ d : Nat, d ≤ 8 → (∀ i, 8 - d ≤ i → i < 8 → nw_ch t i = 0) → uN t < 2 ^ (8 * (8 - d))
  | 0, _, _ => uN_lt t
  | d + 1, hd, h => by
    have ih := nw_low0 t d (by omega) (fun i a b => h i (by omega) b)
    have hz := h (8 - (d + 1)) (by omega) (by omega)
    unfold nw_ch at hz
    have e : 8 * (8 - d) = 8 * (8 - (d + 1)) + 8 := by omega
    rw [e, Nat.pow_add] at ih
    have h1 : uN t / 2 ^ (8 * (8 - (d + 1))) < 256 := Nat.div_lt_of_lt_mul (by rw [Nat.mul_comm] at ih; rw [Nat.mul_comm]; exact ih)
    have h2 : uN t / 2 ^ (8 * (8 - (d + 1))) = 0 := by
      generalize uN t / 2 ^ (8 * (8 - (d + 1))) = q at hz h1 ⊢
      omega
    rcases Nat.div_eq_zero_iff.mp h2 with h3 | h3
    · exact absurd h3 (Nat.pos_iff_ne_zero.mp (Nat.pow_pos (by decide)))
    · exact h3
theorem nw_shz {t : Int64} {L : Nat} (h : L < 8) : (nw_ushr t (nI 8 * nI L) = 0) = (∀ i, L ≤ i → i < 8 → nw_ch t i = 0) := by
  rw [pk_mul]
  unfold nw_ushr
  apply propext
  rw [wb_cu _ (by omega), cr_shr t _ (8 * L) (by rw [u_tn (by omega)]; omega)]
  constructor
  · intro h1 i h2 h3
    unfold nw_ch
    have h4 : uN t < 2 ^ (8 * i) := Nat.lt_of_lt_of_le h1 (Nat.pow_le_pow_right (by decide) (by omega))
    rw [Nat.div_eq_of_lt h4]
  · intro h1
    have := nw_low0 t (8 - L) (by omega) (fun i a b => h1 i (by omega) b)
    rw [show 8 - (8 - L) = L by omega] at this
    exact this
-- the reference's way to the same
def nw_nz (t : Int64) : Nat → Nat
  | 0 => 0
  | k + 1 => nw_nz t k + (if nw_ch t k = 0 then 0 else 1)
def nw_gd (pat : Bool) (t : Int64) : Nat → Bool
  | 0 => true
  | k + 1 => nw_gd pat t k && (decide (nw_ch t k = 0) || (decide (nw_nz t k = k) && nw_okc2 pat (nw_ch t k)))
theorem nw_nz_le (t : Int64) : ∀ k, nw_nz t k ≤ k
  | 0 => Nat.le_refl _
  | k + 1 => by
    have := nw_nz_le t k
    simp only [nw_nz]
    split <;> omega
theorem nw_gd_ok (pat : Bool) (t : Int64) : ∀ k : Nat, k ≤ 8 → (nw_gd pat t k = true ↔ (∀ i, i < k → i < nw_len t → nw_okc2 pat (nw_ch t i) = true) ∧ (∀ i, nw_len t ≤ i → i < k → nw_ch t i = 0)) ∧ ((∀ i, nw_len t ≤ i → i < k → nw_ch t i = 0) → nw_nz t k = min k (nw_len t)) ∧ ((∃ i, nw_len t ≤ i ∧ i < k ∧ nw_ch t i ≠ 0) → nw_nz t k ≤ k - 1)
  | 0, _ => ⟨⟨fun _ => ⟨fun i h => absurd h (by omega), fun i _ h => absurd h (by omega)⟩, fun _ => rfl⟩, fun _ => by simp [nw_nz], fun ⟨i, _, h, _⟩ => absurd h (by omega)⟩
  | k + 1, hk => by
    obtain ⟨ih1, ih2, ih3⟩ := nw_gd_ok pat t k (by omega)
    have hle := nw_nz_le t k
    refine ⟨?_, ?_, ?_⟩
    · simp only [nw_gd, Bool.and_eq_true, Bool.or_eq_true, decide_eq_true_eq]
      rw [ih1]
      constructor
      · rintro ⟨⟨h1, h2⟩, h3⟩
        have hn := ih2 h2
        refine ⟨fun i a b => ?_, fun i a b => ?_⟩
        · by_cases hi : i = k
          · subst hi
            rcases h3 with h3 | h3
            · exact absurd h3 (nw_len_in t b)
            · exact h3.2
          · exact h1 i (by omega) b
        · by_cases hi : i = k
          · subst hi
            rcases h3 with h3 | h3
            · exact h3
            · rw [hn] at h3
              by_cases hz : nw_ch t i = 0
              · exact hz
              · have : nw_len t = i := by omega
                exact absurd (this ▸ nw_len_at t (by omega)) hz
          · exact h2 i a (by omega)
      · rintro ⟨h1, h2⟩
        have hb : ∀ i, nw_len t ≤ i → i < k → nw_ch t i = 0 := fun i a b => h2 i a (by omega)
        refine ⟨⟨fun i a b => h1 i (by omega) b, hb⟩, ?_⟩
        by_cases hz : nw_len t ≤ k
        · exact Or.inl (h2 k hz (by omega))
        · exact Or.inr ⟨by rw [ih2 hb]; omega, h1 k (by omega) (by omega)⟩
    · intro h
      have hb : ∀ i, nw_len t ≤ i → i < k → nw_ch t i = 0 := fun i a b => h i a (by omega)
      simp only [nw_nz]
      rw [ih2 hb]
      by_cases hz : nw_len t ≤ k
      · rw [if_pos (h k hz (by omega))]; omega
      · rw [if_neg (nw_len_in t (by omega))]; omega
    · rintro ⟨i, a, b, c⟩
      simp only [nw_nz]
      by_cases hi : i < k
      · have := ih3 ⟨i, a, hi, c⟩
        split <;> omega
      · have hi : i = k := by omega
        subst hi
        by_cases hall : ∃ q, nw_len t ≤ q ∧ q < i ∧ nw_ch t q ≠ 0
        · have := ih3 hall
          rw [if_neg c]
          obtain ⟨q, _, hq, _⟩ := hall
          omega
        · have hb : ∀ q, nw_len t ≤ q → q < i → nw_ch t q = 0 := fun q x y => by
            by_cases hz : nw_ch t q = 0
            · exact hz
            · exact absurd ⟨q, x, y, hz⟩ hall
          have := ih2 hb
          rw [if_neg c]
          have hne : nw_len t ≠ i := fun e => c (by
            have := nw_len_at t (by omega)
            rw [e] at this
            exact this)
          omega
theorem nw_gd8 (pat : Bool) (t : Int64) : (nw_gd pat t 8 = true ∧ nw_nz t 8 ≠ 0 ↔ nw_txt pat t) ∧ (nw_gd pat t 8 = true → nw_nz t 8 = nw_len t) := by
  obtain ⟨h1, h2, -⟩ := nw_gd_ok pat t 8 (Nat.le_refl _)
  have hl := nw_len_le t
  have h3 : nw_gd pat t 8 = true → nw_nz t 8 = nw_len t := fun h => by rw [h2 (h1.mp h).2]; omega
  refine ⟨⟨fun ⟨a, b⟩ => ?_, fun ⟨a, b, c⟩ => ?_⟩, h3⟩
  · have := h3 a
    exact ⟨by omega, fun i hi => (h1.mp a).1 i (by omega) hi, (h1.mp a).2⟩
  · have h4 : nw_gd pat t 8 = true := h1.mpr ⟨fun i _ hi => b i hi, c⟩
    exact ⟨h4, by rw [h3 h4]; omega⟩
def nw_txtB (pat : Bool) (t : Int64) : Bool := nw_gd pat t 8 && decide (nw_nz t 8 ≠ 0)
theorem nw_txtB_ok (pat : Bool) (t : Int64) : nw_txtB pat t = true ↔ nw_txt pat t := by
  unfold nw_txtB
  rw [Bool.and_eq_true, decide_eq_true_eq]
  exact (nw_gd8 pat t).1
-- matching
def nw_ex1 (p : Nat → Bool) : Nat → Bool
  | 0 => p 0
  | k + 1 => nw_ex1 p k || p (k + 1)
theorem nw_ex1_ok (p : Nat → Bool) : ∀ k, nw_ex1 p k = true ↔ ∃ q, q ≤ k ∧ p q = true
  | 0 => ⟨fun h => ⟨0, Nat.le_refl _, h⟩, fun ⟨q, h1, h2⟩ => by rw [show q = 0 by omega] at h2; exact h2⟩
  | k + 1 => by
    simp only [nw_ex1, Bool.or_eq_true, nw_ex1_ok p k]
    constructor
    · rintro (⟨q, h1, h2⟩ | h)
      · exact ⟨q, by omega, h2⟩
      · exact ⟨k + 1, Nat.le_refl _, h⟩
    · rintro ⟨q, h1, h2⟩
      by_cases hq : q = k + 1
      · exact Or.inr (hq ▸ h2)
      · exact Or.inl ⟨q, by omega, h2⟩
/-- may the k characters from b on stand for the first p of the name? -/
def nw_pl (pt nm : Int64) (b : Nat) : Nat → Nat → Bool
  | 0, p => decide (p = 0)
  | k + 1, p => if nw_ch pt (b + k) = 42 then nw_ex1 (nw_pl pt nm b k) p else decide (1 ≤ p) && nw_pl pt nm b k (p - 1) && (decide (nw_ch pt (b + k) = 63) || decide (nw_ch pt (b + k) = nw_ch nm (p - 1)))
def nw_ms (pt nm : Int64) : Nat → Bool × Nat
  | 0 => (false, 0)
  | k + 1 => if k = nw_len pt ∨ nw_ch pt k = 44 then
      if (nw_ms pt nm k).2 < k ∧ nw_ch pt (nw_ms pt nm k).2 = 33 then
        (if nw_pl pt nm ((nw_ms pt nm k).2 + 1) (k - ((nw_ms pt nm k).2 + 1)) (nw_len nm) = true then false else (nw_ms pt nm k).1, k + 1)
      else (if nw_pl pt nm (nw_ms pt nm k).2 (k - (nw_ms pt nm k).2) (nw_len nm) = true then true else (nw_ms pt nm k).1, k + 1)
    else nw_ms pt nm k
theorem nw_ms_le (pt nm : Int64) : ∀ k, (nw_ms pt nm k).2 ≤ k
  | 0 => Nat.le_refl _
  | k + 1 => by
    have := nw_ms_le pt nm k
    simp only [nw_ms]
    split
    · split <;> exact Nat.le_refl _
    · omega
def nw_mt (pt nm : Int64) : Bool := (nw_ms pt nm (nw_len pt + 1)).1
theorem nw_len0 : nw_len 0 = 0 := by decide +kernel
theorem nw_mt0 (nm : Int64) (h : 1 ≤ nw_len nm) : nw_mt 0 nm = false := by
  unfold nw_mt
  rw [nw_len0]
  have h1 : ¬ nw_len nm = 0 := by omega
  simp [nw_ms, nw_len0, nw_pl, h1]
-- bits of sets of places
theorem nw_bt_neg (x : Int32) {i : Nat} (hi : i < 32) : bt (x ||| -x) i = nw_ex1 (bt x) i := by
  rw [b_or]
  have h : bt (-x) i = (bt x i ^^ decide (∃ j, j < i ∧ bt x j = true)) := by
    unfold bt
    rw [Int32.toBitVec_neg, BitVec.getLsbD_neg]
    simp [hi]
  rw [h, Bool.eq_iff_iff, nw_ex1_ok]
  by_cases hx : bt x i = true
  · simp only [hx, Bool.true_or, true_iff]
    exact ⟨i, Nat.le_refl _, hx⟩
  · have hx' : bt x i = false := by simpa using hx
    simp only [hx', Bool.false_or, Bool.false_xor, decide_eq_true_eq]
    constructor
    · rintro ⟨j, h1, h2⟩
      exact ⟨j, by omega, h2⟩
    · rintro ⟨j, h1, h2⟩
      refine ⟨j, ?_, h2⟩
      have : j ≠ i := fun e => hx (e ▸ h2)
      omega
theorem nw_bt_1 (k : Nat) (hk : k < 32) {i : Nat} (hi : i < 32) : bt (nI 1 <<< (nI k &&& 31)) i = decide (i = k) := by
  have h := nf_sh k hk
  have e : (nI 1 : Int32) = 1 := by decide
  unfold bt
  rw [e, h, BitVec.getLsbD_twoPow]
  by_cases hik : i = k
  · subst hik; simp [hi]
  · have : ¬ k = i := fun e => hik e.symm
    simp [hik, this]
theorem nw_bt_and {x : Int32} {k : Nat} (hk : k < 32) : (x &&& (nI 1 <<< (nI k &&& 31)) = nI 0) = (bt x k = false) := by
  apply propext
  constructor
  · intro h
    have := congrArg (fun y => bt y k) h
    simp only [b_and, nw_bt_1 k hk hk] at this
    simpa [nI_0, b_0] using this
  · intro h
    apply b_ext
    intro i hi
    rw [b_and, nw_bt_1 k hk hi, nI_0, b_0]
    by_cases hik : i = k
    · subst hik; simp [h]
    · simp [hik]
theorem nw_bit {x : Int32} {k : Nat} (hk : k < 31) : (x >>> (nI k &&& 31)) &&& nI 1 = nw_b (bt x k) := by
  have e1 : ∀ i, i < 32 → bt (nI 1) i = decide (i = 0) := by decide +kernel
  apply b_ext
  intro i hi
  rw [b_and, b_sshr k (by omega) x hi, e1 i hi]
  by_cases h0 : i = 0
  · subst h0
    rw [if_pos (by omega)]
    cases hb : bt x k <;> simp [nw_b, hb] <;> decide
  · have h1 : decide (i = 0) = false := by simp [h0]
    rw [h1, Bool.and_false]
    cases bt x k
    · rw [nw_b_f, nI_0, b_0]
    · rw [nw_b_t, e1 i hi, h1]
