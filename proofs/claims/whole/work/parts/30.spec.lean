/-! What the calls do, as functions of the reference's rows: S.1 f the ints of its field f (3: its own numbers n, cutoff, clock, groups), S.2 f the longs. -/
abbrev nw_Q : Type := (Nat → Nat → Int32) × (Nat → Nat → Int64)
def q_i (S : nw_Q) (f k : Nat) (x : Int32) : nw_Q := (va_up S.1 f (upd (S.1 f) k x), S.2)
def q_l (S : nw_Q) (f k : Nat) (x : Int64) : nw_Q := (S.1, va_up S.2 f (vp_updL (S.2 f) k x))
def q_all (p : Nat → Bool) : Nat → Bool
  | 0 => true
  | k + 1 => q_all p k && p (k + 1)
theorem q_all_ok (p : Nat → Bool) : ∀ k, q_all p k = true ↔ ∀ i, 1 ≤ i → i ≤ k → p i = true
  | 0 => ⟨fun _ i h1 h2 => absurd h1 (by omega), fun _ => rfl⟩
  | k + 1 => by
    simp only [q_all, Bool.and_eq_true, q_all_ok p k]
    constructor
    · rintro ⟨h1, h2⟩ i a b
      by_cases hi : i = k + 1
      · rw [hi]; exact h2
      · exact h1 i a (by omega)
    · intro h
      exact ⟨fun i a b => h i a (by omega), h (k + 1) (by omega) (Nat.le_refl _)⟩
def q_srv (S : nw_Q) (s : Int32) : Bool := decide (nI 0 ≤ s ∧ s < S.1 3 0)
def q_id (i : Int32) : Bool := decide (nI 1 ≤ i ∧ i ≤ nI 40)
def q_ents (S : nw_Q) (s : Nat) : Nat := nw_ids (fun i => decide (nI 0 < S.1 12 (41 * s + i)))
/-- block b lies in the blocks of a held article i -/
def q_nc (S : nw_Q) (s b i : Nat) : Bool := decide (S.1 12 (41 * s + i) ≠ nI 1 ∨ nI b < S.1 15 (41 * s + i) ∨ S.1 15 (41 * s + i) + S.1 7 i ≤ nI b)
def q_free (S : nw_Q) (s b : Nat) : Bool := (decide (b < 24) && q_all (q_nc S s b) 40) && decide (S.1 21 s = nI 0 ∨ nI b < S.1 23 s ∨ S.1 23 s + S.1 7 (S.1 21 s).toNatClampNeg ≤ nI b)
def q_runF (F : Nat → Bool) : Nat → Nat → Nat
  | 0, _ => 0
  | d + 1, b => if F b = true then q_runF F d (b + 1) + 1 else 0
def q_run (S : nw_Q) (s b : Nat) : Nat := q_runF (q_free S s) 24 b
def q_roomF (S : nw_Q) (s : Nat) (need : Int32) : Nat → Nat → Int32
  | 0, _ => -1
  | d + 1, b => if need ≤ nI (q_run S s b) then nI b else q_roomF S s need d (b + 1)
def q_room (S : nw_Q) (s : Nat) (need : Int32) : Int32 := q_roomF S s need 24 0
def q_carries (S : nw_Q) (s g : Nat) : Bool := decide (nI 0 < S.1 10 (6 * s + g))
def q_noneF (S : nw_Q) (s i : Nat) : Nat → Bool
  | 0 => true
  | g + 1 => q_noneF S s i g && (!(bt (S.1 5 i) g) || !(q_carries S s g))
def q_useless (S : nw_Q) (s i : Nat) : Bool := q_noneF S s i 6 || decide (S.1 6 i < S.1 3 2 - S.1 3 1) || decide (S.1 3 2 + nI 10 < S.1 6 i)
def q_lacks (S : nw_Q) (s i : Nat) : Bool := decide (q_ents S s = 24) || decide (q_room S s (S.1 7 i) < nI 0)
def q_later (S : nw_Q) (i : Nat) : Int32 := S.1 3 1 + (if S.1 3 2 < S.1 6 i then S.1 6 i else S.1 3 2)
-- carry
def q_grpF (S : nw_Q) (name : Int64) (G : Nat) : Nat → Nat → Nat
  | 0, g => g
  | d + 1, g => if g < G ∧ S.2 4 g ≠ name then q_grpF S name G d (g + 1) else g
-- a line of waiting articles
def q_lvF (row : Nat → Int32) (off : Nat) (id : Int32) : Nat → Nat × (Nat → Int32)
  | 0 => (0, row)
  | k + 1 => ((q_lvF row off id k).1 + (if upd (q_lvF row off id k).2 (off + (q_lvF row off id k).1) ((q_lvF row off id k).2 (off + k)) (off + k) = id then 0 else 1), upd (q_lvF row off id k).2 (off + (q_lvF row off id k).1) ((q_lvF row off id k).2 (off + k)))
def q_leaves (S : nw_Q) (line : Nat) (id : Int32) : nw_Q :=
  (va_up (va_up S.1 19 (q_lvF (S.1 19) (24 * line) id (S.1 20 line).toNatClampNeg).2) 20 (upd (S.1 20) line (nI (q_lvF (S.1 19) (24 * line) id (S.1 20 line).toNatClampNeg).1)), S.2)
def q_begin (S : nw_Q) (s i : Nat) (sender way : Int32) : nw_Q :=
  q_i (q_i (q_i (q_i (q_i S 23 s (q_room S s (S.1 7 i))) 21 s (nI i)) 22 s (S.1 7 i)) 25 s sender) 24 s (way ||| nI 1 <<< (nI s &&& 31))
-- filing
def q_numF (S : nw_Q) (s i : Nat) : Nat → nw_Q
  | 0 => S
  | g + 1 => if bt (S.1 5 i) g = true ∧ q_carries S s g = true
      then q_i (q_i (q_numF S s i g) 11 (6 * s + g) ((q_numF S s i g).1 11 (6 * s + g) + nI 1)) 17 (6 * (41 * s + i) + g) ((q_numF S s i g).1 11 (6 * s + g) + nI 1)
      else q_i (q_i (q_numF S s i g) 11 (6 * s + g) ((q_numF S s i g).1 11 (6 * s + g) + nI 0)) 17 (6 * (41 * s + i) + g) (nI 0)
def q_wantF (S : nw_Q) (line i : Nat) : Nat → Bool
  | 0 => false
  | g + 1 => q_wantF S line i g || (bt (S.1 5 i) g && (nw_txtB true (S.2 18 line) && nw_txtB false (S.2 4 g) && nw_mt (S.2 18 line) (S.2 4 g)))
def q_feedF (S : nw_Q) (s i : Nat) : Nat → nw_Q
  | 0 => S
  | t + 1 => if bt (S.1 16 (41 * s + i)) t = false ∧ q_wantF S (4 * s + t) i (S.1 3 3).toNatClampNeg = true
      then q_i (q_i (q_feedF S s i t) 19 (24 * (4 * s + t) + ((q_feedF S s i t).1 20 (4 * s + t)).toNatClampNeg) (nI i)) 20 (4 * s + t) ((q_feedF S s i t).1 20 (4 * s + t) + nI 1)
      else q_feedF S s i t
def q_remN (S : nw_Q) (s i : Nat) : Nat → nw_Q
  | 0 => S
  | g + 1 => q_i (q_remN S s i g) 17 (6 * (41 * s + i) + g) (nI 0)
def q_remL (S : nw_Q) (s i : Nat) : Nat → nw_Q
  | 0 => S
  | t + 1 => q_leaves (q_remL S s i t) (4 * s + t) (nI i)
def q_remove (S : nw_Q) (s i : Nat) : nw_Q := q_remL (q_remN S s i 6) s i (S.1 3 0).toNatClampNeg
def q_cancel (S : nw_Q) (s i : Nat) : nw_Q :=
  if S.1 12 (41 * s + i) = nI 0 ∧ q_ents S s = 24 then S
  else if S.1 12 (41 * s + i) = nI 1 then q_i (q_remove S s i) 12 (41 * s + i) (nI 4)
  else if S.1 12 (41 * s + i) = nI 0 then q_i (q_i S 13 (41 * s + i) (S.1 3 2 + S.1 3 1)) 12 (41 * s + i) (nI 4)
  else q_i S 12 (41 * s + i) (nI 4)
def q_file1 (S : nw_Q) (s i : Nat) : nw_Q :=
  q_i (q_i (q_i (q_i (q_i (q_i S 21 s (nI 0)) 12 (41 * s + i) (nI 1)) 13 (41 * s + i) (q_later S i)) 14 (41 * s + i) (S.1 3 2)) 15 (41 * s + i) (S.1 23 s)) 16 (41 * s + i) (S.1 24 s)
def q_file2 (S : nw_Q) (s i : Nat) : nw_Q := if nI 0 ≤ S.1 25 s then q_leaves (q_numF (q_file1 S s i) s i 6) (4 * (S.1 25 s).toNatClampNeg + s) (nI i) else q_numF (q_file1 S s i) s i 6
def q_file3 (S : nw_Q) (s i : Nat) : nw_Q := q_feedF (q_file2 S s i) s i (S.1 3 0).toNatClampNeg
def q_file (S : nw_Q) (s i : Nat) : nw_Q := if nI 0 < S.1 8 i then q_cancel (q_file3 S s i) s (S.1 8 i).toNatClampNeg else q_file3 S s i
-- numbers
def q_num (S : nw_Q) (s i g : Nat) : Int32 := if S.1 12 (41 * s + i) = nI 1 then S.1 17 (6 * (41 * s + i) + g) else nI 0
def q_count (S : nw_Q) (s g : Nat) (low top : Int32) : Int32 := nI (nw_ids (fun i => decide (nI 0 < q_num S s i g ∧ low ≤ q_num S s i g ∧ q_num S s i g ≤ top)))
def q_nextF (S : nw_Q) (s g : Nat) (low : Int32) (up : Bool) : Nat → Nat × Int32
  | 0 => (0, nI 0)
  | k + 1 => if (nI 0 < q_num S s (k + 1) g ∧ (if up = true then low ≤ q_num S s (k + 1) g else q_num S s (k + 1) g ≤ low)) ∧ ((q_nextF S s g low up k).1 = 0 ∨ (if up = true then q_num S s (k + 1) g < (q_nextF S s g low up k).2 else (q_nextF S s g low up k).2 < q_num S s (k + 1) g))
      then (k + 1, q_num S s (k + 1) g) else q_nextF S s g low up k
def q_next (S : nw_Q) (s g : Nat) (low : Int32) (up : Bool) : Nat := (q_nextF S s g low up 40).1
