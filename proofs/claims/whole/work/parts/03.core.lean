/-! OUR OWN LAYER: a small world (kinds, lengths, references, rows of ints and longs) that the heap holds, and V: the machine, from a place of a method, comes to a return with Q. One row of V an instruction; nothing of the machine is seen above this part. -/
abbrev nw_W : Type := (Nat × (Nat → Nat) × (Nat → Nat) × (Nat → Nat → Option Nat)) × (Nat → Nat → Int32) × (Nat → Nat → Int64)
def nw_sz (w : nw_W) : Nat := w.1.1
def nw_kd (w : nw_W) : Nat → Nat := w.1.2.1
def nw_ln (w : nw_W) : Nat → Nat := w.1.2.2.1
def nw_rf (w : nw_W) : Nat → Nat → Option Nat := w.1.2.2.2
def nw_I (w : nw_W) : Nat → Nat → Int32 := w.2.1
def nw_L (w : nw_W) : Nat → Nat → Int64 := w.2.2
def nw_setI (w : nw_W) (a : Nat) (f : Nat → Int32) : nw_W := (w.1, va_up w.2.1 a f, w.2.2)
def nw_setL (w : nw_W) (a : Nat) (f : Nat → Int64) : nw_W := (w.1, w.2.1, va_up w.2.2 a f)
def nw_setR (w : nw_W) (a : Nat) (f : Nat → Option Nat) : nw_W := ((w.1.1, w.1.2.1, w.1.2.2.1, va_up w.1.2.2.2 a f), w.2.1, w.2.2)
def nw_new (w : nw_W) (kd ln : Nat) : nw_W := ((nw_sz w + 1, va_up (nw_kd w) (nw_sz w + 1) kd, va_up (nw_ln w) (nw_sz w + 1) ln, va_up (nw_rf w) (nw_sz w + 1) (fun _ => none)), va_up (nw_I w) (nw_sz w + 1) (fun _ => 0), va_up (nw_L w) (nw_sz w + 1) (fun _ => 0))
/-- an array of n references to n new rows of k ints -/
def nw_grid (w : nw_W) (n k : Nat) : nw_W := ((nw_sz w + 1 + n, fun a => if a ≤ nw_sz w then nw_kd w a else if a = nw_sz w + 1 then 19 else 16, fun a => if a ≤ nw_sz w then nw_ln w a else if a = nw_sz w + 1 then n else k, fun a => if a ≤ nw_sz w then nw_rf w a else if a = nw_sz w + 1 then (fun i => if i < n then some (nw_sz w + 2 + i) else none) else (fun _ => none)), (fun a => if a ≤ nw_sz w then nw_I w a else fun _ => 0), fun a => if a ≤ nw_sz w then nw_L w a else fun _ => 0)
-- reading behind writing
theorem nw_sz_I (w : nw_W) (a : Nat) (f : Nat → Int32) : nw_sz (nw_setI w a f) = nw_sz w := rfl
theorem nw_kd_I (w : nw_W) (a : Nat) (f : Nat → Int32) : nw_kd (nw_setI w a f) = nw_kd w := rfl
theorem nw_ln_I (w : nw_W) (a : Nat) (f : Nat → Int32) : nw_ln (nw_setI w a f) = nw_ln w := rfl
theorem nw_rf_I (w : nw_W) (a : Nat) (f : Nat → Int32) : nw_rf (nw_setI w a f) = nw_rf w := rfl
theorem nw_L_I (w : nw_W) (a : Nat) (f : Nat → Int32) : nw_L (nw_setI w a f) = nw_L w := rfl
theorem nw_I_I (w : nw_W) (a : Nat) (f : Nat → Int32) : nw_I (nw_setI w a f) = va_up (nw_I w) a f := rfl
theorem nw_sz_L (w : nw_W) (a : Nat) (f : Nat → Int64) : nw_sz (nw_setL w a f) = nw_sz w := rfl
theorem nw_kd_L (w : nw_W) (a : Nat) (f : Nat → Int64) : nw_kd (nw_setL w a f) = nw_kd w := rfl
theorem nw_ln_L (w : nw_W) (a : Nat) (f : Nat → Int64) : nw_ln (nw_setL w a f) = nw_ln w := rfl
theorem nw_rf_L (w : nw_W) (a : Nat) (f : Nat → Int64) : nw_rf (nw_setL w a f) = nw_rf w := rfl
theorem nw_I_L (w : nw_W) (a : Nat) (f : Nat → Int64) : nw_I (nw_setL w a f) = nw_I w := rfl
theorem nw_L_L (w : nw_W) (a : Nat) (f : Nat → Int64) : nw_L (nw_setL w a f) = va_up (nw_L w) a f := rfl
theorem nw_sz_R (w : nw_W) (a : Nat) (f : Nat → Option Nat) : nw_sz (nw_setR w a f) = nw_sz w := rfl
theorem nw_kd_R (w : nw_W) (a : Nat) (f : Nat → Option Nat) : nw_kd (nw_setR w a f) = nw_kd w := rfl
theorem nw_ln_R (w : nw_W) (a : Nat) (f : Nat → Option Nat) : nw_ln (nw_setR w a f) = nw_ln w := rfl
theorem nw_I_R (w : nw_W) (a : Nat) (f : Nat → Option Nat) : nw_I (nw_setR w a f) = nw_I w := rfl
theorem nw_L_R (w : nw_W) (a : Nat) (f : Nat → Option Nat) : nw_L (nw_setR w a f) = nw_L w := rfl
theorem nw_rf_R (w : nw_W) (a : Nat) (f : Nat → Option Nat) : nw_rf (nw_setR w a f) = va_up (nw_rf w) a f := rfl
theorem nw_sz_g (w : nw_W) (n k : Nat) : nw_sz (nw_grid w n k) = nw_sz w + 1 + n := rfl
theorem nw_kd_g (w : nw_W) (n k : Nat) : nw_kd (nw_grid w n k) = fun a => if a ≤ nw_sz w then nw_kd w a else if a = nw_sz w + 1 then 19 else 16 := rfl
theorem nw_ln_g (w : nw_W) (n k : Nat) : nw_ln (nw_grid w n k) = fun a => if a ≤ nw_sz w then nw_ln w a else if a = nw_sz w + 1 then n else k := rfl
theorem nw_rf_g (w : nw_W) (n k : Nat) : nw_rf (nw_grid w n k) = fun a => if a ≤ nw_sz w then nw_rf w a else if a = nw_sz w + 1 then (fun i => if i < n then some (nw_sz w + 2 + i) else none) else (fun _ => none) := rfl
theorem nw_I_g (w : nw_W) (n k : Nat) : nw_I (nw_grid w n k) = fun a => if a ≤ nw_sz w then nw_I w a else fun _ => 0 := rfl
theorem nw_L_g (w : nw_W) (n k : Nat) : nw_L (nw_grid w n k) = fun a => if a ≤ nw_sz w then nw_L w a else fun _ => 0 := rfl
theorem nw_sz_n (w : nw_W) (k n : Nat) : nw_sz (nw_new w k n) = nw_sz w + 1 := rfl
theorem nw_kd_n (w : nw_W) (k n : Nat) : nw_kd (nw_new w k n) = va_up (nw_kd w) (nw_sz w + 1) k := rfl
theorem nw_ln_n (w : nw_W) (k n : Nat) : nw_ln (nw_new w k n) = va_up (nw_ln w) (nw_sz w + 1) n := rfl
theorem nw_rf_n (w : nw_W) (k n : Nat) : nw_rf (nw_new w k n) = va_up (nw_rf w) (nw_sz w + 1) (fun _ => none) := rfl
theorem nw_I_n (w : nw_W) (k n : Nat) : nw_I (nw_new w k n) = va_up (nw_I w) (nw_sz w + 1) (fun _ => 0) := rfl
theorem nw_L_n (w : nw_W) (k n : Nat) : nw_L (nw_new w k n) = va_up (nw_L w) (nw_sz w + 1) (fun _ => 0) := rfl
-- addresses and values: place 0 is the script's, place k + 1 the k-th cell behind the heap as it was
def nw_ad (b base k : Nat) : Nat := if k = 0 then b else base + (k - 1)
def nw_ph (b base : Nat) (v : Value) : Value := match v with
  | .ref k => .ref (nw_ad b base k)
  | v => v
/-- no value: a local that isn't set -/
def nw_u : Value := .retAddr 0
def nw_isR (t : FieldType) : Bool := match t with
  | .object _ => true
  | .array _ => true
  | _ => false
theorem nw_ty_ok {c k : Nat} (h : c < 8) (hk : k < nw_N c) : nw_ty c k = .int ∨ nw_ty c k = .boolean ∨ nw_isR (nw_ty c k) = true := by
  have h1 := nw_okty_all c h k hk
  cases ht : nw_ty c k <;> rw [ht] at h1 <;> first | exact Or.inl rfl | exact Or.inr (Or.inl rfl) | exact Or.inr (Or.inr rfl) | cases h1
theorem nw_nar_ref {t : FieldType} {x : Nat} (h : nw_isR t = true) : narrow t (.ref x) = .ref x := by
  cases t <;> first | rfl | cases h
theorem nw_fit_ref {t : FieldType} {x : Nat} (h : nw_isR t = true) : fits t (.ref x) = true := by
  cases t <;> first | rfl | cases h
def nw_fv (w : nw_W) (a c k : Nat) : Value := if nw_isR (nw_ty c k) = true then va_rf (nw_rf w a k) else .int (nw_I w a k)
def nw_tys (dA : Nat → ClassId) : List (ClassId × FieldType) := [(dA 16, .int), (dA 17, .long), (dA 18, .boolean), (dA 19, .array .int), (dA 20, .object "NewsFlood$Server"), (dA 21, .object "NewsFlood$Article"), (dA 22, .object "NewsFlood$Backlog")]
def nw_cell (D : va_G) (dA : Nat → ClassId) (b base : Nat) (w : nw_W) (a : Nat) (H : Heap) : Prop :=
  (nw_kd w a < 8 ∧ t_OB (nw_ad b base a) (D.1 (nw_kd w a)) (nw_N (nw_kd w a)) (D.2 (nw_kd w a)) H (fun k => nw_ph b base (nw_fv w a (nw_kd w a) k))) ∨
  ((nw_kd w a = 16 ∨ nw_kd w a = 18) ∧ H[nw_ad b base a]? = some (arrV (dA (nw_kd w a)) (nw_ln w a) (fun j => .int (nw_I w a j)))) ∨
  (nw_kd w a = 17 ∧ H[nw_ad b base a]? = some (arrV (dA 17) (nw_ln w a) (fun j => .long (nw_L w a j)))) ∨
  (19 ≤ nw_kd w a ∧ nw_kd w a < 23 ∧ H[nw_ad b base a]? = some (arrV (dA (nw_kd w a)) (nw_ln w a) (fun j => nw_ph b base (va_rf (nw_rf w a j)))))
def nw_Rep (D : va_G) (dA : Nat → ClassId) (b base : Nat) (w : nw_W) (s : State) (H : Heap) : Prop :=
  b < base ∧ H.size = base + nw_sz w ∧ va_X b (nw_ln w 0) (nw_I w 0) s H ∧ ∀ a, 1 ≤ a → a ≤ nw_sz w → nw_cell D dA b base w a H
theorem nw_Rep.moved {D : va_G} {dA : Nat → ClassId} {b base : Nat} {w : nw_W} {u U : State} {H : Heap} (hvm : u.vm.Alike U.vm) (h : nw_Rep D dA b base w u H) : nw_Rep D dA b base w U H :=
  ⟨h.1, h.2.1, va_X.moved hvm h.2.2.1, h.2.2.2⟩
/-- a place that holds an object (an array) of kind c -/
def nw_ob (w : nw_W) (a c : Nat) : Prop := nw_kd w a = c ∧ 1 ≤ a ∧ a ≤ nw_sz w
theorem nw_ad_ne {b base x y : Nat} (hb : b < base) (h : x ≠ y) : nw_ad b base x ≠ nw_ad b base y := by
  unfold nw_ad
  by_cases hx : x = 0 <;> by_cases hy : y = 0 <;> simp [hx, hy] <;> omega
theorem nw_ad_1 {b base x : Nat} (h : 1 ≤ x) : nw_ad b base x = base + (x - 1) := by
  unfold nw_ad
  rw [if_neg (by omega)]
theorem nw_cell.kept {D : va_G} {dA : Nat → ClassId} {b base : Nat} {w w' : nw_W} {a : Nat} {H H1 : Heap} (h : nw_cell D dA b base w a H) (hH : H1[nw_ad b base a]? = H[nw_ad b base a]?)
    (h1 : nw_kd w' a = nw_kd w a) (h2 : nw_ln w' a = nw_ln w a) (h3 : nw_rf w' a = nw_rf w a) (h4 : nw_I w' a = nw_I w a) (h5 : nw_L w' a = nw_L w a) : nw_cell D dA b base w' a H1 := by
  unfold nw_cell nw_fv at *
  rw [h1, h2, h3, h4, h5, hH]
  rcases h with h | h | h | h
  · exact Or.inl ⟨h.1, h.2.kept hH⟩
  · exact Or.inr (Or.inl h)
  · exact Or.inr (Or.inr (Or.inl h))
  · exact Or.inr (Or.inr (Or.inr h))
/-- one cell is written: the rest of the picture stands -/
theorem nw_Rep.put {D : va_G} {dA : Nat → ClassId} {b base : Nat} {w w' : nw_W} {s : State} {a : Nat} {H H1 : Heap} (h : nw_Rep D dA b base w s H) (ha : 1 ≤ a) (hz : H1.size = H.size) (hq : ∀ q, q ≠ nw_ad b base a → H1[q]? = H[q]?)
    (hs : nw_sz w' = nw_sz w) (hk : ∀ x, x ≠ a → nw_kd w' x = nw_kd w x ∧ nw_ln w' x = nw_ln w x ∧ nw_rf w' x = nw_rf w x ∧ nw_I w' x = nw_I w x ∧ nw_L w' x = nw_L w x)
    (hc : nw_cell D dA b base w' a H1) : nw_Rep D dA b base w' s H1 := by
  obtain ⟨h1, h2, h3, h4⟩ := h
  refine ⟨h1, by rw [hz, hs]; exact h2, ?_, fun x hx1 hx2 => ?_⟩
  · have hk0 := hk 0 (by omega)
    rw [hk0.2.1, hk0.2.2.2.1]
    refine h3.kept (hq b ?_)
    have := nw_ad_ne (b := b) (base := base) h1 (show (0 : Nat) ≠ a by omega)
    simpa [nw_ad] using this
  · by_cases hx : x = a
    · subst hx
      exact hc
    · obtain ⟨k1, k2, k3, k4, k5⟩ := hk x hx
      exact (h4 x hx1 (by rw [← hs]; exact hx2)).kept (hq _ (nw_ad_ne h1 hx)) k1 k2 k3 k4 k5
-- locals: a list by places
def nw_at : List Value → Nat → Option Value
  | [], _ => none
  | v :: _, 0 => some v
  | _ :: r, n + 1 => nw_at r n
def nw_put : List Value → Nat → Value → List Value
  | [], _, _ => []
  | _ :: r, 0, v => v :: r
  | a :: r, n + 1, v => a :: nw_put r n v
def nw_as (b base : Nat) : Nat → List Value → List (Nat × Value)
  | _, [] => []
  | i, v :: r => if v = nw_u then nw_as b base (i + 1) r else (i, nw_ph b base v) :: nw_as b base (i + 1) r
/-- is the local ahead of this one no long? -/
def nw_nl : List Value → Nat → Bool
  | _, 0 => true
  | l, j + 1 => match nw_at l j with
    | some (.long _) => false
    | some (.double _) => false
    | _ => true
def nw_loc (b base n : Nat) (ls : Array Slot) (lv : List Value) : Prop := lv.length = n ∧ lv_has ls n (nw_as b base 0 lv)
theorem nw_as_mem {b base : Nat} {q : Nat × Value} : ∀ (l : List Value) (i : Nat), q ∈ nw_as b base i l ↔ ∃ (k : Nat) (v : Value), nw_at l k = some v ∧ v ≠ nw_u ∧ q = (i + k, nw_ph b base v)
  | [], i => by simp [nw_as, nw_at]
  | v :: r, i => by
    unfold nw_as
    have ih := nw_as_mem (b := b) (base := base) (q := q) r (i + 1)
    by_cases hv : v = nw_u
    · rw [if_pos hv, ih]
      constructor
      · rintro ⟨k, x, h1, h2, h3⟩
        exact ⟨k + 1, x, h1, h2, by rw [h3]; congr 1; omega⟩
      · rintro ⟨k, x, h1, h2, h3⟩
        cases k with
        | zero => exact absurd hv (by simp [nw_at] at h1; rw [h1]; exact h2)
        | succ k => exact ⟨k, x, h1, h2, by rw [h3]; congr 1; omega⟩
    · rw [if_neg hv, List.mem_cons, ih]
      constructor
      · rintro (h | ⟨k, x, h1, h2, h3⟩)
        · exact ⟨0, v, rfl, hv, by rw [h]; rfl⟩
        · exact ⟨k + 1, x, h1, h2, by rw [h3]; congr 1; omega⟩
      · rintro ⟨k, x, h1, h2, h3⟩
        cases k with
        | zero =>
          left
          simp [nw_at] at h1
          rw [h3, h1]; rfl
        | succ k => exact Or.inr ⟨k, x, h1, h2, by rw [h3]; congr 1; omega⟩
theorem nw_loc.get {b base n : Nat} {ls : Array Slot} {lv : List Value} (h : nw_loc b base n ls lv) {i : Nat} {v : Value} (hi : nw_at lv i = some v) (hv : v ≠ nw_u) : ls[i]? = some (.val (nw_ph b base v)) := by
  have := h.2.2.2 (0 + i, nw_ph b base v) ((nw_as_mem lv 0).mpr ⟨i, v, hi, hv, rfl⟩)
  simpa using this
theorem nw_put_len : ∀ (l : List Value) (i : Nat) (v : Value), (nw_put l i v).length = l.length
  | [], _, _ => rfl
  | _ :: _, 0, _ => rfl
  | _ :: r, i + 1, v => by simp [nw_put, nw_put_len r i v]
theorem nw_at_put : ∀ (l : List Value) (i j : Nat) (v : Value), nw_at (nw_put l i v) j = if j = i ∧ j < l.length then some v else nw_at l j
  | [], i, j, v => by simp [nw_put, nw_at]
  | a :: r, 0, 0, v => by simp [nw_put, nw_at]
  | a :: r, 0, j + 1, v => by simp [nw_put, nw_at]
  | a :: r, i + 1, 0, v => by simp [nw_put, nw_at]
  | a :: r, i + 1, j + 1, v => by simp [nw_put, nw_at, nw_at_put r i j v]
theorem nw_at_lt : ∀ (l : List Value) (i : Nat) {v : Value}, nw_at l i = some v → i < l.length
  | [], _, _, h => by simp [nw_at] at h
  | _ :: _, 0, _, _ => by simp
  | _ :: r, i + 1, _, h => by
    have := nw_at_lt r i h
    simp; omega
theorem nw_ph_cat (b base : Nat) (v : Value) : (nw_ph b base v).category = v.category := by cases v <;> rfl
/-- one local of one place is set -/
theorem nw_loc.put {b base n i : Nat} {ls ls' : Array Slot} {lv : List Value} {v : Value} (h : nw_loc b base n ls lv) (hn : nw_nl lv i = true)
    (h' : lv_has ls' n ((i, nw_ph b base v) :: (nw_as b base 0 lv).filter (fun q => !(q.1 == i) && !(q.1 + 1 == i && q.2.category == 2)))) : nw_loc b base n ls' (nw_put lv i v) := by
  refine ⟨by rw [nw_put_len]; exact h.1, h'.1, h'.2.1, fun q hq => ?_⟩
  obtain ⟨k, x, h1, h2, h3⟩ := (nw_as_mem _ 0).mp hq
  rw [nw_at_put] at h1
  refine h'.2.2 q ?_
  by_cases hk : k = i
  · subst hk
    have hx : x = v := by
      split at h1
      · exact (Option.some.inj h1).symm
      · rename_i hh
        exact absurd ⟨rfl, nw_at_lt _ _ h1⟩ hh
    subst hx
    rw [h3]
    simp
  · rw [if_neg (fun hh => hk hh.1)] at h1
    refine List.mem_cons_of_mem _ (List.mem_filter.mpr ⟨(nw_as_mem _ 0).mpr ⟨k, x, h1, h2, h3⟩, ?_⟩)
    rw [h3]
    simp only [Nat.zero_add, nw_ph_cat]
    have a1 : (k == i) = false := by simp [hk]
    rw [a1]
    by_cases hk2 : k + 1 = i
    · subst hk2
      have : x.category ≠ 2 ∨ True := Or.inr trivial
      simp only [nw_nl, h1] at hn
      cases x <;> simp_all [Value.category]
    · have a2 : (k + 1 == i) = false := by simp [hk2]
      rw [a2]; rfl
/-- a long is set -/
theorem nw_loc.put2 {b base n i : Nat} {ls ls' : Array Slot} {lv : List Value} {v : Value} (h : nw_loc b base n ls lv) (hn : nw_nl lv i = true)
    (h' : lv_has ls' n ((i, nw_ph b base v) :: (nw_as b base 0 lv).filter (fun q => !(q.1 == i) && (!(q.1 == i + 1) && !(q.1 + 1 == i && q.2.category == 2))))) : nw_loc b base n ls' (nw_put (nw_put lv i v) (i + 1) nw_u) := by
  refine ⟨by rw [nw_put_len, nw_put_len]; exact h.1, h'.1, h'.2.1, fun q hq => ?_⟩
  obtain ⟨k, x, h1, h2, h3⟩ := (nw_as_mem _ 0).mp hq
  rw [nw_at_put, nw_at_put, nw_put_len] at h1
  refine h'.2.2 q ?_
  by_cases hk1 : k = i + 1
  · subst hk1
    split at h1
    · exact absurd (Option.some.inj h1).symm h2
    · rename_i hh
      rw [if_neg (by omega)] at h1
      exact absurd ⟨rfl, nw_at_lt _ _ h1⟩ hh
  · rw [if_neg (fun hh => hk1 hh.1)] at h1
    by_cases hk : k = i
    · subst hk
      have hx : x = v := by
        split at h1
        · exact (Option.some.inj h1).symm
        · rename_i hh
          exact absurd ⟨rfl, nw_at_lt _ _ h1⟩ hh
      subst hx
      rw [h3]
      simp
    · rw [if_neg (fun hh => hk hh.1)] at h1
      refine List.mem_cons_of_mem _ (List.mem_filter.mpr ⟨(nw_as_mem _ 0).mpr ⟨k, x, h1, h2, h3⟩, ?_⟩)
      rw [h3]
      simp only [Nat.zero_add, nw_ph_cat]
      have a1 : (k == i) = false := by simp [hk]
      have a3 : (k == i + 1) = false := by simp [hk1]
      rw [a1, a3]
      by_cases hk2 : k + 1 = i
      · subst hk2
        simp only [nw_nl, h1] at hn
        cases x <;> simp_all [Value.category]
      · have a2 : (k + 1 == i) = false := by simp [hk2]
        rw [a2]; rfl
