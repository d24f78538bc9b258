/-! V and its rows. A method M: its name, code, locals, answer, class, frames and locals' room below it. -/
def nw_AO (U : State) : Prop := (∀ kd, kd = 20 ∨ kd = 21 ∨ kd = 22 → va_AO (nw_anC kd) U) ∧ (Cond.arrayOver (.array .int)).before #[] U = true
theorem nw_AO.moved {u U : State} (hvm : u.vm.Alike U.vm) (h : nw_AO u) : nw_AO U := ⟨fun kd hk => (h.1 kd hk).moved hvm, over_moved hvm h.2⟩
def nw_Mach (M : nw_M) (p : Program) (R : Room) (s : State) (m : MethodId) (args : Array Value) (meth : Method) (c : Code) (D : va_G) (dA : Nat → ClassId) : Prop :=
  p.tables.exec = Jvm.exec ∧ c.code = nw_cc M ∧ c.maxLocals = nw_ml M ∧ s.vm.findClass (nw_R (nw_on M)) = some m.cls ∧ (∀ w ∈ nw_tb, w.before args s = true) ∧ meth.name = (nw_y M).name ∧ va_K D nw_cl (nw_tys dA) s ∧ nw_fr M ≤ R.frames ∧ nw_lo M ≤ R.locals ∧ nw_AO s
/-- the instruction that ends a method with this answer -/
def nw_ri (M : nw_M) (i : Instr) (r : Option Value) : Prop := (r = none ∧ i = .return_ ∧ nw_rt M = none) ∨ ∃ (v : Int32) (ty : FieldType), r = some (.int v) ∧ i = .ireturn ∧ nw_rt M = some ty ∧ narrow ty (.int v) = .int v
def V (M : nw_M) (pc : Nat) (lv : List Value) (st : List Value) (w : nw_W) (bc bs : Nat) (Q : Option Value → nw_W → Prop) : Prop :=
  ∀ (p : Program) (l : Launch) (e : Env) (R : Room) (s : State) (m : MethodId) (args : Array Value) (below : List Frame) (meth : Method) (c : Code) (H : Heap) (locs : List Loc) (cells slots : Nat) (Z : State → Prop) (ls : Array Slot) (D : va_G) (dA : Nat → ClassId) (b base : Nat),
    nw_Mach M p R s m args meth c D dA → nw_Rep D dA b base w s H → (∀ q ∈ locs, base ≤ q.base) → nw_loc b base (nw_ml M) ls lv → cells + bc ≤ R.cells → slots + bs ≤ R.slots →
    (∀ (r : Option Value) (w' : nw_W) (H' : Heap) (locs' : List Loc) (pc' : Nat) (ls' : Array Slot) (i : Instr), nw_ri M i r → decode (nw_cc M) pc' = .ok (i, 1) → Q r w' → nw_Rep D dA b base w' s H' → (∀ q ∈ locs', base ≤ q.base) →
      W p l e R s m args below meth c H' locs' (cells + bc) (slots + bs) Z (F0 m pc' ls' (r.toList.map (nw_ph b base)))) →
    W p l e R s m args below meth c H locs cells slots Z (F0 m pc ls (st.map (nw_ph b base)))
section NWR
variable {M : nw_M} {pc pc' : Nat} {lv st st' : List Value} {w w' : nw_W} {bc bs : Nat} {Q : Option Value → nw_W → Prop}
/-- an instruction that moves the place and the stack alone -/
theorem V_go (h : ∀ (p : Program) (l : Launch) (e : Env) (R : Room) (s : State) (m : MethodId) (args : Array Value) (below : List Frame) (meth : Method) (c : Code) (H : Heap) (locs : List Loc) (cells slots : Nat) (Z : State → Prop) (ls : Array Slot) (D : va_G) (dA : Nat → ClassId) (b base : Nat),
    nw_Mach M p R s m args meth c D dA → nw_Rep D dA b base w s H → nw_loc b base (nw_ml M) ls lv →
    W p l e R s m args below meth c H locs cells slots Z (F0 m pc' ls (st'.map (nw_ph b base))) → W p l e R s m args below meth c H locs cells slots Z (F0 m pc ls (st.map (nw_ph b base))))
    (k : V M pc' lv st' w bc bs Q) : V M pc lv st w bc bs Q := by
  intro p l e R s m args below meth c H locs cells slots Z ls D dA b base hM hR hlo hl hc hs hr
  exact h p l e R s m args below meth c H locs cells slots Z ls D dA b base hM hR hl (k p l e R s m args below meth c H locs cells slots Z ls D dA b base hM hR hlo hl hc hs hr)
theorem V_mono {Q' : Option Value → nw_W → Prop} (hQ : ∀ r w, Q r w → Q' r w) (h : V M pc lv st w bc bs Q) : V M pc lv st w bc bs Q' := by
  intro p l e R s m args below meth c H locs cells slots Z ls D dA b base hM hR hlo hl hc hs hr
  exact h p l e R s m args below meth c H locs cells slots Z ls D dA b base hM hR hlo hl hc hs (fun r w' H' locs' pc' ls' i a1 a2 a3 a4 a5 => hr r w' H' locs' pc' ls' i a1 a2 (hQ _ _ a3) a4 a5)
/-- the end of a method -/
theorem V_end {i : Instr} {r : Option Value} (hd : decode (nw_cc M) pc = .ok (i, 1)) (hi : nw_ri M i r) (k : Q r w) : V M pc lv r.toList w bc bs Q := by
  intro p l e R s m args below meth c H locs cells slots Z ls D dA b base hM hR hlo hl hc hs hr
  exact W.widen (k := cells + bc) (n := slots + bs) (Nat.le_add_right _ _) (Nat.le_add_right _ _) (hr r w H locs pc ls i hi hd k hR hlo)
-- constants
theorem V_iconst {n : Int} (hd : decode (nw_cc M) pc = .ok (.iconst n, 1)) (k : V M (pc + 1) lv (.int (Int32.ofInt n) :: st) w bc bs Q) : V M pc lv st w bc bs Q :=
  V_go (fun _ _ _ _ _ _ _ _ _ _ _ _ _ _ _ _ _ _ _ _ hM _ _ kk => lv_iconst hM.1 hM.2.1 hd rfl kk) k
theorem V_bipush {n : Int} (hd : decode (nw_cc M) pc = .ok (.bipush n, 2)) (k : V M (pc + 2) lv (.int (Int8.ofInt n).toInt32 :: st) w bc bs Q) : V M pc lv st w bc bs Q :=
  V_go (fun _ _ _ _ _ _ _ _ _ _ _ _ _ _ _ _ _ _ _ _ hM _ _ kk => lv_bipush hM.1 hM.2.1 hd rfl kk) k
theorem V_sipush {n : Int} (hd : decode (nw_cc M) pc = .ok (.sipush n, 3)) (k : V M (pc + 3) lv (.int (Int16.ofInt n).toInt32 :: st) w bc bs Q) : V M pc lv st w bc bs Q :=
  V_go (fun _ _ _ _ _ _ _ _ _ _ _ _ _ _ _ _ _ _ _ _ hM _ _ kk => lv_sipush hM.1 hM.2.1 hd rfl kk) k
theorem V_lconst {n : Fin 2} (hd : decode (nw_cc M) pc = .ok (.lconst n, 1)) (k : V M (pc + 1) lv (.long (Int64.ofNat (n : Nat)) :: st) w bc bs Q) : V M pc lv st w bc bs Q :=
  V_go (fun _ _ _ _ _ _ _ _ _ _ _ _ _ _ _ _ _ _ _ _ hM _ _ kk => lv_lconst hM.1 hM.2.1 hd rfl kk) k
theorem V_ldc {i : Nat} {v : Int32} (hd : decode (nw_cc M) pc = .ok (.ldc i, 2)) (hw : Jvm.Cond.constant (nw_R (nw_on M)) i v ∈ nw_tb) (k : V M (pc + 2) lv (.int v :: st) w bc bs Q) : V M pc lv st w bc bs Q :=
  V_go (fun _ _ _ _ _ _ _ _ _ _ _ _ _ _ _ _ _ _ _ _ hM _ _ kk => lv_ldc hM.1 hM.2.1 hM.2.2.2.1 (hM.2.2.2.2.1 _ hw) hd kk) k
theorem V_ldc2 {i : Nat} {v : Int64} (hd : decode (nw_cc M) pc = .ok (.ldc2_w i, 3)) (hw : Jvm.Cond.constantLong (nw_R (nw_on M)) i v ∈ nw_tb) (k : V M (pc + 3) lv (.long v :: st) w bc bs Q) : V M pc lv st w bc bs Q :=
  V_go (fun _ _ _ _ _ _ _ _ _ _ _ _ _ _ _ _ _ _ _ _ hM _ _ kk => lv_ldc2 hM.1 hM.2.1 hM.2.2.2.1 (hM.2.2.2.2.1 _ hw) hd kk) k
-- locals
theorem V_iload {i : Nat} {x : Int32} (hd : decode (nw_cc M) pc = .ok (.iload i, 2)) (hi : nw_at lv i = some (.int x)) (k : V M (pc + 2) lv (.int x :: st) w bc bs Q) : V M pc lv st w bc bs Q :=
  V_go (fun _ _ _ _ _ _ _ _ _ _ _ _ _ _ _ _ _ _ _ _ hM _ hl kk => lv_iload hM.1 hM.2.1 hd (hl.get hi (by intro h; cases h)) kk) k
theorem V_iload_n {i : Fin 4} {x : Int32} (hd : decode (nw_cc M) pc = .ok (.iload_n i, 1)) (hi : nw_at lv (i : Nat) = some (.int x)) (k : V M (pc + 1) lv (.int x :: st) w bc bs Q) : V M pc lv st w bc bs Q :=
  V_go (fun _ _ _ _ _ _ _ _ _ _ _ _ _ _ _ _ _ _ _ _ hM _ hl kk => lv_iload_n hM.1 hM.2.1 hd rfl (hl.get hi (by intro h; cases h)) kk) k
theorem V_lload {i : Nat} {x : Int64} (hd : decode (nw_cc M) pc = .ok (.lload i, 2)) (hi : nw_at lv i = some (.long x)) (k : V M (pc + 2) lv (.long x :: st) w bc bs Q) : V M pc lv st w bc bs Q :=
  V_go (fun _ _ _ _ _ _ _ _ _ _ _ _ _ _ _ _ _ _ _ _ hM _ hl kk => lv_lload hM.1 hM.2.1 hd (hl.get hi (by intro h; cases h)) kk) k
theorem V_lload_n {i : Fin 4} {x : Int64} (hd : decode (nw_cc M) pc = .ok (.lload_n i, 1)) (hi : nw_at lv (i : Nat) = some (.long x)) (k : V M (pc + 1) lv (.long x :: st) w bc bs Q) : V M pc lv st w bc bs Q :=
  V_go (fun _ _ _ _ _ _ _ _ _ _ _ _ _ _ _ _ _ _ _ _ hM _ hl kk => lv_lload_n hM.1 hM.2.1 hd rfl (hl.get hi (by intro h; cases h)) kk) k
theorem V_aload {i : Nat} {x : Nat} (hd : decode (nw_cc M) pc = .ok (.aload i, 2)) (hi : nw_at lv i = some (.ref x)) (k : V M (pc + 2) lv (.ref x :: st) w bc bs Q) : V M pc lv st w bc bs Q :=
  V_go (fun _ _ _ _ _ _ _ _ _ _ _ _ _ _ _ _ _ _ _ _ hM _ hl kk => lv_aload hM.1 hM.2.1 hd (hl.get hi (by intro h; cases h)) kk) k
theorem V_aload_n {i : Fin 4} {x : Nat} (hd : decode (nw_cc M) pc = .ok (.aload_n i, 1)) (hi : nw_at lv (i : Nat) = some (.ref x)) (k : V M (pc + 1) lv (.ref x :: st) w bc bs Q) : V M pc lv st w bc bs Q :=
  V_go (fun _ _ _ _ _ _ _ _ _ _ _ _ _ _ _ _ _ _ _ _ hM _ hl kk => lv_aload_n hM.1 hM.2.1 hd rfl (hl.get hi (by intro h; cases h)) kk) k
theorem V_istore {i : Nat} {x : Int32} (hd : decode (nw_cc M) pc = .ok (.istore i, 2)) (hn : nw_nl lv i = true) (hi : i < nw_ml M) (k : V M (pc + 2) (nw_put lv i (.int x)) st w bc bs Q) : V M pc lv (.int x :: st) w bc bs Q := by
  intro p l e R s m args below meth c H locs cells slots Z ls D dA b base hM hR hlo hl hc hs hr
  exact lv_istore hM.1 hM.2.1 hd hl.2 hi rfl (fun ls' h' => k p l e R s m args below meth c H locs cells slots Z ls' D dA b base hM hR hlo (hl.put (v := .int x) hn h') hc hs hr)
theorem V_istore_n {i : Fin 4} {x : Int32} (hd : decode (nw_cc M) pc = .ok (.istore_n i, 1)) (hn : nw_nl lv (i : Nat) = true) (hi : (i : Nat) < nw_ml M) (k : V M (pc + 1) (nw_put lv (i : Nat) (.int x)) st w bc bs Q) : V M pc lv (.int x :: st) w bc bs Q := by
  intro p l e R s m args below meth c H locs cells slots Z ls D dA b base hM hR hlo hl hc hs hr
  exact lv_istore_n hM.1 hM.2.1 hd rfl hl.2 hi rfl (fun ls' h' => k p l e R s m args below meth c H locs cells slots Z ls' D dA b base hM hR hlo (hl.put (v := .int x) hn h') hc hs hr)
theorem V_astore {i : Nat} {x : Nat} (hd : decode (nw_cc M) pc = .ok (.astore i, 2)) (hn : nw_nl lv i = true) (hi : i < nw_ml M) (k : V M (pc + 2) (nw_put lv i (.ref x)) st w bc bs Q) : V M pc lv (.ref x :: st) w bc bs Q := by
  intro p l e R s m args below meth c H locs cells slots Z ls D dA b base hM hR hlo hl hc hs hr
  exact lv_astore hM.1 hM.2.1 hd hl.2 hi rfl (fun ls' h' => k p l e R s m args below meth c H locs cells slots Z ls' D dA b base hM hR hlo (hl.put (v := .ref x) hn h') hc hs hr)
theorem V_astore_n {i : Fin 4} {x : Nat} (hd : decode (nw_cc M) pc = .ok (.astore_n i, 1)) (hn : nw_nl lv (i : Nat) = true) (hi : (i : Nat) < nw_ml M) (k : V M (pc + 1) (nw_put lv (i : Nat) (.ref x)) st w bc bs Q) : V M pc lv (.ref x :: st) w bc bs Q := by
  intro p l e R s m args below meth c H locs cells slots Z ls D dA b base hM hR hlo hl hc hs hr
  exact lv_astore_n hM.1 hM.2.1 hd rfl hl.2 hi rfl (fun ls' h' => k p l e R s m args below meth c H locs cells slots Z ls' D dA b base hM hR hlo (hl.put (v := .ref x) hn h') hc hs hr)
theorem V_lstore {i : Nat} {x : Int64} (hd : decode (nw_cc M) pc = .ok (.lstore i, 2)) (hn : nw_nl lv i = true) (hi : i + 1 < nw_ml M) (k : V M (pc + 2) (nw_put (nw_put lv i (.long x)) (i + 1) nw_u) st w bc bs Q) : V M pc lv (.long x :: st) w bc bs Q := by
  intro p l e R s m args below meth c H locs cells slots Z ls D dA b base hM hR hlo hl hc hs hr
  exact lv_lstore hM.1 hM.2.1 hd hl.2 hi rfl (fun ls' h' => k p l e R s m args below meth c H locs cells slots Z ls' D dA b base hM hR hlo (hl.put2 (v := .long x) hn h') hc hs hr)
theorem V_iinc {i : Nat} {n : Int} {x : Int32} (hd : decode (nw_cc M) pc = .ok (.iinc i n, 3)) (hx : nw_at lv i = some (.int x)) (hn : nw_nl lv i = true) (hi : i < nw_ml M) (k : V M (pc + 3) (nw_put lv i (.int (x + Int32.ofInt n))) st w bc bs Q) : V M pc lv st w bc bs Q := by
  intro p l e R s m args below meth c H locs cells slots Z ls D dA b base hM hR hlo hl hc hs hr
  have hm : (i, nw_ph b base (.int x)) ∈ nw_as b base 0 lv := (nw_as_mem lv 0).mpr ⟨i, .int x, hx, (by intro h; cases h), by simp⟩
  obtain ⟨k9, hk9⟩ := List.getElem?_of_mem hm
  exact lv_iinc hM.1 hM.2.1 hd hl.2 hk9 rfl hi rfl (fun ls' h' => k p l e R s m args below meth c H locs cells slots Z ls' D dA b base hM hR hlo (hl.put (v := .int (x + Int32.ofInt n)) hn h') hc hs hr)
-- arithmetic
theorem V_iadd {x y : Int32} (hd : decode (nw_cc M) pc = .ok (.iadd, 1)) (k : V M (pc + 1) lv (.int (x + y) :: st) w bc bs Q) : V M pc lv (.int y :: .int x :: st) w bc bs Q :=
  V_go (fun _ _ _ _ _ _ _ _ _ _ _ _ _ _ _ _ _ _ _ _ hM _ _ kk => lv_iadd hM.1 hM.2.1 hd kk) k
theorem V_isub {x y : Int32} (hd : decode (nw_cc M) pc = .ok (.isub, 1)) (k : V M (pc + 1) lv (.int (x - y) :: st) w bc bs Q) : V M pc lv (.int y :: .int x :: st) w bc bs Q :=
  V_go (fun _ _ _ _ _ _ _ _ _ _ _ _ _ _ _ _ _ _ _ _ hM _ _ kk => lv_isub hM.1 hM.2.1 hd kk) k
theorem V_imul {x y : Int32} (hd : decode (nw_cc M) pc = .ok (.imul, 1)) (k : V M (pc + 1) lv (.int (x * y) :: st) w bc bs Q) : V M pc lv (.int y :: .int x :: st) w bc bs Q :=
  V_go (fun _ _ _ _ _ _ _ _ _ _ _ _ _ _ _ _ _ _ _ _ hM _ _ kk => lv_imul hM.1 hM.2.1 hd kk) k
theorem V_iand {x y : Int32} (hd : decode (nw_cc M) pc = .ok (.iand, 1)) (k : V M (pc + 1) lv (.int (x &&& y) :: st) w bc bs Q) : V M pc lv (.int y :: .int x :: st) w bc bs Q :=
  V_go (fun _ _ _ _ _ _ _ _ _ _ _ _ _ _ _ _ _ _ _ _ hM _ _ kk => lv_iand hM.1 hM.2.1 hd kk) k
theorem V_ior {x y : Int32} (hd : decode (nw_cc M) pc = .ok (.ior, 1)) (k : V M (pc + 1) lv (.int (x ||| y) :: st) w bc bs Q) : V M pc lv (.int y :: .int x :: st) w bc bs Q :=
  V_go (fun _ _ _ _ _ _ _ _ _ _ _ _ _ _ _ _ _ _ _ _ hM _ _ kk => lv_ior hM.1 hM.2.1 hd kk) k
theorem V_ishl {x y : Int32} (hd : decode (nw_cc M) pc = .ok (.ishl, 1)) (k : V M (pc + 1) lv (.int (x <<< (y &&& 31)) :: st) w bc bs Q) : V M pc lv (.int y :: .int x :: st) w bc bs Q :=
  V_go (fun _ _ _ _ _ _ _ _ _ _ _ _ _ _ _ _ _ _ _ _ hM _ _ kk => lv_ishl hM.1 hM.2.1 hd kk) k
theorem V_ishr {x y : Int32} (hd : decode (nw_cc M) pc = .ok (.ishr, 1)) (k : V M (pc + 1) lv (.int (x >>> (y &&& 31)) :: st) w bc bs Q) : V M pc lv (.int y :: .int x :: st) w bc bs Q :=
  V_go (fun _ _ _ _ _ _ _ _ _ _ _ _ _ _ _ _ _ _ _ _ hM _ _ kk => lv_ishr hM.1 hM.2.1 hd kk) k
theorem V_ineg {x : Int32} (hd : decode (nw_cc M) pc = .ok (.ineg, 1)) (k : V M (pc + 1) lv (.int (-x) :: st) w bc bs Q) : V M pc lv (.int x :: st) w bc bs Q :=
  V_go (fun _ _ _ _ _ _ _ _ _ _ _ _ _ _ _ _ _ _ _ _ hM _ _ kk => lv_ineg hM.1 hM.2.1 hd kk) k
theorem V_i2l {x : Int32} (hd : decode (nw_cc M) pc = .ok (.i2l, 1)) (k : V M (pc + 1) lv (.long x.toInt64 :: st) w bc bs Q) : V M pc lv (.int x :: st) w bc bs Q :=
  V_go (fun _ _ _ _ _ _ _ _ _ _ _ _ _ _ _ _ _ _ _ _ hM _ _ kk => lv_i2l hM.1 hM.2.1 hd rfl kk) k
theorem V_l2i {x : Int64} (hd : decode (nw_cc M) pc = .ok (.l2i, 1)) (k : V M (pc + 1) lv (.int x.toInt32 :: st) w bc bs Q) : V M pc lv (.long x :: st) w bc bs Q :=
  V_go (fun _ _ _ _ _ _ _ _ _ _ _ _ _ _ _ _ _ _ _ _ hM _ _ kk => lv_l2i hM.1 hM.2.1 hd rfl kk) k
theorem V_lshl {x : Int64} {y : Int32} (hd : decode (nw_cc M) pc = .ok (.lshl, 1)) (k : V M (pc + 1) lv (.long (x <<< (y.toInt64 &&& 63)) :: st) w bc bs Q) : V M pc lv (.int y :: .long x :: st) w bc bs Q :=
  V_go (fun _ _ _ _ _ _ _ _ _ _ _ _ _ _ _ _ _ _ _ _ hM _ _ kk => lv_lshl hM.1 hM.2.1 hd rfl kk) k
theorem V_lshr {x : Int64} {y : Int32} (hd : decode (nw_cc M) pc = .ok (.lshr, 1)) (k : V M (pc + 1) lv (.long (x >>> (y.toInt64 &&& 63)) :: st) w bc bs Q) : V M pc lv (.int y :: .long x :: st) w bc bs Q :=
  V_go (fun _ _ _ _ _ _ _ _ _ _ _ _ _ _ _ _ _ _ _ _ hM _ _ kk => lv_lshr hM.1 hM.2.1 hd rfl kk) k
def nw_ushr (x : Int64) (y : Int32) : Int64 := (x.toUInt64 >>> (y.toInt64.toUInt64 &&& Int64.toUInt64 63)).toInt64
theorem V_lushr {x : Int64} {y : Int32} (hd : decode (nw_cc M) pc = .ok (.lushr, 1)) (k : V M (pc + 1) lv (.long (nw_ushr x y) :: st) w bc bs Q) : V M pc lv (.int y :: .long x :: st) w bc bs Q :=
  V_go (fun _ _ _ _ _ _ _ _ _ _ _ _ _ _ _ _ _ _ _ _ hM _ _ kk => lv_lushr hM.1 hM.2.1 hd rfl kk) k
theorem V_land {x y : Int64} (hd : decode (nw_cc M) pc = .ok (.land, 1)) (k : V M (pc + 1) lv (.long (x &&& y) :: st) w bc bs Q) : V M pc lv (.long y :: .long x :: st) w bc bs Q :=
  V_go (fun _ _ _ _ _ _ _ _ _ _ _ _ _ _ _ _ _ _ _ _ hM _ _ kk => lv_land hM.1 hM.2.1 hd kk) k
theorem V_lor {x y : Int64} (hd : decode (nw_cc M) pc = .ok (.lor, 1)) (k : V M (pc + 1) lv (.long (x ||| y) :: st) w bc bs Q) : V M pc lv (.long y :: .long x :: st) w bc bs Q :=
  V_go (fun _ _ _ _ _ _ _ _ _ _ _ _ _ _ _ _ _ _ _ _ hM _ _ kk => lv_lor hM.1 hM.2.1 hd kk) k
theorem V_lcmp {x y : Int64} (hd : decode (nw_cc M) pc = .ok (.lcmp, 1)) (k : V M (pc + 1) lv (.int (lg_cmp x y) :: st) w bc bs Q) : V M pc lv (.long y :: .long x :: st) w bc bs Q :=
  V_go (fun _ _ _ _ _ _ _ _ _ _ _ _ _ _ _ _ _ _ _ _ hM _ _ kk => W.lcmp hM.1 hM.2.1 hd kk) k
-- stack
theorem V_dup {v : Value} (hd : decode (nw_cc M) pc = .ok (.dup, 1)) (hv : v.category = 1) (k : V M (pc + 1) lv (v :: v :: st) w bc bs Q) : V M pc lv (v :: st) w bc bs Q :=
  V_go (fun _ _ _ _ _ _ _ _ _ _ _ _ _ _ _ _ _ _ b base hM _ _ kk => lv_dup hM.1 hM.2.1 hd (by rw [nw_ph_cat]; exact hv) kk) k
theorem V_dup2 {v u : Value} (hd : decode (nw_cc M) pc = .ok (.dup2, 1)) (hv : v.category = 1) (hu : u.category = 1) (k : V M (pc + 1) lv (v :: u :: v :: u :: st) w bc bs Q) : V M pc lv (v :: u :: st) w bc bs Q :=
  V_go (fun _ _ _ _ _ _ _ _ _ _ _ _ _ _ _ _ _ _ b base hM _ _ kk => lv_dup2_11 hM.1 hM.2.1 hd (by rw [nw_ph_cat]; exact hv) (by rw [nw_ph_cat]; exact hu) kk) k
end NWR
