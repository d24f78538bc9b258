theorem nw_ob_I (w : nw_W) (a : Nat) (f : Nat → Int32) (x c : Nat) : nw_ob (nw_setI w a f) x c = nw_ob w x c := rfl
theorem nw_ob_L (w : nw_W) (a : Nat) (f : Nat → Int64) (x c : Nat) : nw_ob (nw_setL w a f) x c = nw_ob w x c := rfl
theorem nw_obr_I (w : nw_W) (a : Nat) (f : Nat → Int32) (x : Nat) : nw_obr (nw_setI w a f) x = nw_obr w x := rfl
theorem nw_obr_L (w : nw_W) (a : Nat) (f : Nat → Int64) (x : Nat) : nw_obr (nw_setL w a f) x = nw_obr w x := rfl
theorem nw_oba_I (w : nw_W) (a : Nat) (f : Nat → Int32) (x : Nat) : nw_oba (nw_setI w a f) x = nw_oba w x := rfl
theorem nw_oba_L (w : nw_W) (a : Nat) (f : Nat → Int64) (x : Nat) : nw_oba (nw_setL w a f) x = nw_oba w x := rfl
theorem nw_obr_of {w : nw_W} {a kd : Nat} (h : nw_ob w a kd) (h1 : 19 ≤ kd) (h2 : kd < 23) : nw_obr w a := by
  unfold nw_obr
  rw [h.1]
  exact ⟨h1, h2, h.2⟩
theorem nw_oba_of {w : nw_W} {a kd : Nat} (h : nw_ob w a kd) (h1 : 16 ≤ kd) (h2 : kd < 23) : nw_oba w a := by
  unfold nw_oba
  rw [h.1]
  exact Or.inr ⟨h1, h2, h.2⟩
theorem nw_do0 {M' : nw_M} {As : List Value} {w : nw_W} {bc bs : Nat} {P : Option Value → nw_W → Prop} {f : Option Value → nw_W → Nat → Nat → Prop} (h : V M' 0 (nw_ent M' As) [] w 0 0 P) (k : ∀ r w', P r w' → f r w' bc bs) : nw_do M' As w bc bs f :=
  ⟨0, 0, Nat.zero_le _, Nat.zero_le _, V_mono (fun r w' hp => k r w' hp) h⟩
/-- an int, the world as it was -/
abbrev nw_ri1 (x : Int32) (w : nw_W) : Option Value → nw_W → Prop := fun r w' => r = some (.int x) ∧ w' = w
theorem nw_setI2 (w : nw_W) (a : Nat) (f g : Nat → Int32) : nw_setI (nw_setI w a f) a g = nw_setI w a g := by
  unfold nw_setI
  refine Prod.ext rfl (Prod.ext (funext fun x => ?_) rfl)
  show va_up (va_up w.2.1 a f) a g x = va_up w.2.1 a g x
  unfold va_up
  split <;> rfl
theorem nw_setI_id {w : nw_W} {a : Nat} {f : Nat → Int32} (h : f = nw_I w a) : nw_setI w a f = w := by
  subst h
  unfold nw_setI
  refine Prod.ext rfl (Prod.ext (funext fun x => ?_) rfl)
  show va_up w.2.1 a (nw_I w a) x = w.2.1 x
  unfold va_up
  split
  · rename_i h
    subst h
    rfl
  · rfl
theorem nw_ifI (p : Prop) [Decidable p] (x y : Nat) : (if p then nI x else nI y) = nI (if p then x else y) := by
  split <;> rfl
abbrev nw_rx (P : Int32 → Prop) (w : nw_W) : Option Value → nw_W → Prop := fun r w' => ∃ x, r = some (.int x) ∧ w' = w ∧ P x
abbrev nw_rw (u : nw_W) : Option Value → nw_W → Prop := fun r w' => r = none ∧ w' = u
theorem nw_subadd (a b c : Int32) : a - b + c = a + c - b := by rw [Int32.sub_eq_add_neg, Int32.sub_eq_add_neg, Int32.add_assoc, Int32.add_comm (-b) c, ← Int32.add_assoc]
theorem nw_setI3 {a b : Nat} (w : nw_W) (f g f' : Nat → Int32) (h : ¬ b = a) : nw_setI (nw_setI (nw_setI w a f) b g) a f' = nw_setI (nw_setI w a f') b g := by
  unfold nw_setI
  refine Prod.ext rfl (Prod.ext (funext fun x => ?_) rfl)
  show va_up (va_up (va_up w.2.1 a f) b g) a f' x = va_up (va_up w.2.1 a f') b g x
  unfold va_up
  by_cases h1 : x = a
  · subst h1
    have : ¬ x = b := fun e => h e.symm
    simp [this]
  · simp [h1]
theorem nw_upd2 (f : Nat → Int32) (k : Nat) (x y : Int32) : upd (upd f k x) k y = upd f k y := by
  funext j
  unfold upd
  split <;> rfl
theorem nw_upd_id {f : Nat → Int32} {k : Nat} {x : Int32} (h : x = f k) : upd f k x = f := by
  funext j
  unfold upd
  split
  · rename_i e
    rw [h, e]
  · rfl
def nw_no2 : Option Value → Bool
  | some (.long _) => false
  | some (.double _) => false
  | _ => true
theorem nw_nl0 (l : List Value) : nw_nl l 0 = true := by cases l <;> rfl
theorem nw_nlS (l : List Value) (j : Nat) : nw_nl l (j + 1) = nw_no2 (nw_at l j) := by
  simp only [nw_nl, nw_no2]
  rcases nw_at l j with _ | v
  · rfl
  · cases v <;> rfl
theorem nw_no2s : nw_no2 (some nw_u) = true ∧ nw_no2 none = true ∧ (∀ x, nw_no2 (some (.int x)) = true) ∧ (∀ x, nw_no2 (some (.ref x)) = true) ∧ (∀ x, nw_no2 (some (.long x)) = false) := ⟨rfl, rfl, fun _ => rfl, fun _ => rfl, fun _ => rfl⟩
theorem nw_ft (p : Bool) : (p = false ∨ p = true) = True := by cases p <;> simp
theorem nw_l01 : Int64.ofNat 0 = 0 ∧ Int64.ofNat 1 = 1 := ⟨rfl, rfl⟩
