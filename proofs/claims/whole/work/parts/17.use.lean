theorem nw_ob_I (w : nw_W) (a : Nat) (f : Nat → Int32) (x c : Nat) : nw_ob (nw_setI w a f) x c = nw_ob w x c := rfl
theorem nw_ob_L (w : nw_W) (a : Nat) (f : Nat → Int64) (x c : Nat) : nw_ob (nw_setL w a f) x c = nw_ob w x c := rfl
theorem nw_obr_I (w : nw_W) (a : Nat) (f : Nat → Int32) (x : Nat) : nw_obr (nw_setI w a f) x = nw_obr w x := rfl
theorem nw_obr_L (w : nw_W) (a : Nat) (f : Nat → Int64) (x : Nat) : nw_obr (nw_setL w a f) x = nw_obr w x := rfl
theorem nw_oba_I (w : nw_W) (a : Nat) (f : Nat → Int32) (x : Nat) : nw_oba (nw_setI w a f) x = nw_oba w x := rfl
theorem nw_oba_L (w : nw_W) (a : Nat) (f : Nat → Int64) (x : Nat) : nw_oba (nw_setL w a f) x = nw_oba w x := rfl
theorem nw_obr_of {w : nw_W} {a kd : Nat} (h : nw_ob w a kd) (h1 : 19 ≤ kd) (h2 : kd < 23) : nw_obr w a := by
  unfold nw_obr
  rw [h.1]
  exact ⟨h1, h2, h.2⟩
theorem nw_oba_of {w : nw_W} {a kd : Nat} (h : nw_ob w a kd) (h1 : 16 ≤ kd) (h2 : kd < 23) : nw_oba w a := by
  unfold nw_oba
  rw [h.1]
  exact Or.inr ⟨h1, h2, h.2⟩
theorem nw_do0 {M' : nw_M} {As : List Value} {w : nw_W} {bc bs : Nat} {P : Option Value → nw_W → Prop} {f : Option Value → nw_W → Nat → Nat → Prop} (h : V M' 0 (nw_ent M' As) [] w 0 0 P) (k : ∀ r w', P r w' → f r w' bc bs) : nw_do M' As w bc bs f :=
  ⟨0, 0, Nat.zero_le _, Nat.zero_le _, V_mono (fun r w' hp => k r w' hp) h⟩
/-- an int, the world as it was -/
def nw_ri1 (x : Int32) (w : nw_W) : Option Value → nw_W → Prop := fun r w' => r = some (.int x) ∧ w' = w
