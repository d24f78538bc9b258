/-! an array of rows of ints: the model's own make, walked -/
section MZ
variable {E : CtlPost} {e : Env} {d : Bool} {acts : List Action} {s : State}
/-- the state with the outer array and i rows made -/
def mz_st (T : State) (cA cI : ClassId) (N K : Nat) : Nat → State
  | 0 => T.pushCell (arrV cA N (fun _ => .null))
  | i + 1 => ((mz_st T cA cI N K i).pushCell (arrV cI K (fun _ => .int 0))).setCell T.heap.size (arrV cA N (fun j => if j < i + 1 then .ref (T.heap.size + 1 + j) else .null))
def mz_Is (T U : State) (cA cI : ClassId) (N K i : Nat) : Prop :=
  U.heap.size = T.heap.size + 1 + i ∧ U.heap[T.heap.size]? = some (arrV cA N (fun j => if j < i then .ref (T.heap.size + 1 + j) else .null)) ∧ U.vm = T.vm ∧ U.slotsUsed = T.slotsUsed + N + i * K ∧
  (∀ a : Nat, a < T.heap.size → U.heap[a]? = T.heap[a]?) ∧ ∀ j : Nat, j < i → U.heap[T.heap.size + 1 + j]? = some (arrV cI K (fun _ => .int 0))
theorem mz_cell (cA : ClassId) (N z i : Nat) : arrV cA N (updV (fun j => if j < i then .ref (z + 1 + j) else .null) i (.ref (z + 1 + i))) = arrV cA N (fun j => if j < i + 1 then .ref (z + 1 + j) else .null) := by
  refine congrArg (arrV cA N) (funext fun j => ?_)
  show (if j = i then _ else if j < i then _ else _) = if j < i + 1 then _ else _
  by_cases h1 : j = i
  · rw [if_pos h1, if_pos (by omega), h1]
  · rw [if_neg h1]
    by_cases h2 : j < i
    · rw [if_pos h2, if_pos (by omega)]
    · rw [if_neg h2, if_neg (by omega)]
theorem mz_is (T : State) (cA cI : ClassId) (N K : Nat) : ∀ i, mz_Is T (mz_st T cA cI N K i) cA cI N K i
  | 0 => by
    refine ⟨?_, ?_, rfl, ?_, fun a ha => State.heap_pushCell_of_lt _ _ ha, fun j hj => absurd hj (Nat.not_lt_zero j)⟩
    · simp [mz_st]
    · simp [mz_st]
    · simp [mz_st, arrV_size]
  | i + 1 => by
    obtain ⟨h1, h2, h3, h4, h5, h6⟩ := mz_is T cA cI N K i
    have hlt : T.heap.size < (mz_st T cA cI N K i).heap.size := by omega
    have h2' : ((mz_st T cA cI N K i).pushCell (arrV cI K (fun _ => .int 0))).heap[T.heap.size]? = some (arrV cA N (fun j => if j < i then .ref (T.heap.size + 1 + j) else .null)) := by
      rw [State.heap_pushCell_of_lt (h := hlt)]
      exact h2
    refine ⟨?_, State.heap_setCell_self h2', ?_, ?_, fun a ha => ?_, fun j hj => ?_⟩
    · simp [mz_st, State.setCell, h1]
      omega
    · simp [mz_st, h3]
    · simp [mz_st, h4, arrV_size, Nat.succ_mul]
      omega
    · show (((mz_st T cA cI N K i).pushCell _).setCell T.heap.size _).heap[a]? = _
      rw [State.heap_setCell_other (Nat.ne_of_gt ha), State.heap_pushCell_of_lt (h := Nat.lt_trans ha hlt)]
      exact h5 a ha
    · show (((mz_st T cA cI N K i).pushCell _).setCell T.heap.size _).heap[T.heap.size + 1 + j]? = _
      rw [State.heap_setCell_other (show T.heap.size ≠ T.heap.size + 1 + j by omega)]
      by_cases hji : j = i
      · rw [hji, ← h1]
        exact State.heap_pushCell_size _ _
      · rw [State.heap_pushCell_of_lt (h := show T.heap.size + 1 + j < (mz_st T cA cI N K i).heap.size by omega)]
        exact h6 j (by omega)
theorem mz_top (T : State) (f : JFrame) (cA cI : ClassId) (N K : Nat) : ∀ i, mz_st (T.setTop f) cA cI N K i = (mz_st T cA cI N K i).setTop f
  | 0 => rfl
  | i + 1 => by simp only [mz_st, mz_top T f cA cI N K i, State.heap_setTop, State.pushCell_setTop, State.setCell_setTop]
theorem mz_new {c comp : ClassId} {k : Class} {ty : FieldType} {n : Nat} {v : Value} (hk : s.vm.classes[c]? = some k) (hkind : k.kind = .array comp ty) (h1 : ¬ n > e.platform.arrayLengthLimit) (h2 : ¬ n * componentBytes ty > e.platform.maxHeapBytes) (hf : fits ty v = true) (hd : v.isDefault = true) (h3 : s.heap.size < e.platform.maxCells) (h4 : s.slotsUsed + n ≤ e.platform.maxSlots) {Q : Addr → Pre} (hq : Q s.heap.size d acts (s.pushCell (arrV c n (fun _ => v)))) : wp (Jvm.newArray c n v) Q E e d acts s := by
  have hm : ¬ n > e.platform.maxSlots := by omega
  have ha : allocActs (Array.replicate n v) s.heap.size acts = acts := by
    unfold allocActs
    rw [if_pos]
    rw [Array.all_replicate]
    split <;> simp [hd]
  have hs : ∀ i x, (Array.replicate n v)[i]? = some x → s.fitsSlot c .none i x = true := fun i x hx => by
    rw [Array.getElem?_replicate] at hx
    split at hx
    · cases hx
      simp [State.fitsSlot, State.slotType?, hk, hkind, hf]
    · cases hx
  rw [← arrV_new] at hq
  unfold Jvm.newArray Jvm.arrayFits
  simp only [wp_bind', Jvm.W.ask, Jvm.W.ite, wp_pure', Jvm.W.theClass, Jvm.W.alloc, if_neg h1, if_neg hm, hk, Option.some.injEq, exists_eq_left', hkind, if_neg h2, ha, Array.size_replicate]
  exact ⟨h3, h4, hs, hq⟩
/-- what the machine must have of the two array classes -/
def mz_Cl (vm : Vm) (cA cI : ClassId) : Prop := (∃ k, vm.classes[cA]? = some k ∧ k.kind = .array cI (.array .int)) ∧ ∃ k cc, vm.classes[cI]? = some k ∧ k.kind = .array cc .int
theorem mz_row {cA cI : ClassId} {m : Int32} (hc : mz_Cl s.vm cA cI) (hm : ¬ m < 0) (h1 : ¬ m.toNatClampNeg > e.platform.arrayLengthLimit) (h2 : ¬ m.toNatClampNeg * 4 > e.platform.maxHeapBytes) (h3 : s.heap.size < e.platform.maxCells) (h4 : s.slotsUsed + m.toNatClampNeg ≤ e.platform.maxSlots) {Q : Addr → Pre} (hq : Q s.heap.size d acts (s.pushCell (arrV cI m.toNatClampNeg (fun _ => .int 0)))) : wp (multianewarray.make cI [m]) Q E e d acts s := by
  obtain ⟨-, k, cc, hk, hkind⟩ := hc
  unfold multianewarray.make
  simp only [wp_bind', Jvm.W.ite, if_neg hm, wp_pure', Jvm.W.theClass, hk, Option.some.injEq, exists_eq_left', hkind]
  exact mz_new hk hkind h1 h2 rfl rfl h3 h4 hq
theorem mz_make {cA cI : ClassId} {n m : Int32} (hc : mz_Cl s.vm cA cI) (hn : ¬ n < 0) (hm : ¬ m < 0) (hn1 : ¬ n.toNatClampNeg > e.platform.arrayLengthLimit) (hn2 : ¬ n.toNatClampNeg * 4 > e.platform.maxHeapBytes) (h1 : ¬ m.toNatClampNeg > e.platform.arrayLengthLimit) (h2 : ¬ m.toNatClampNeg * 4 > e.platform.maxHeapBytes) (h3 : s.heap.size + (1 + n.toNatClampNeg) ≤ e.platform.maxCells) (h4 : s.slotsUsed + (n.toNatClampNeg + n.toNatClampNeg * m.toNatClampNeg) ≤ e.platform.maxSlots) {Q : Addr → Pre} (hq : ∀ d' acts', Q s.heap.size d' acts' (mz_st s cA cI n.toNatClampNeg m.toNatClampNeg n.toNatClampNeg)) : wp (multianewarray.make cA [n, m]) Q E e d acts s := by
  obtain ⟨N, hN⟩ : ∃ N, n.toNatClampNeg = N := ⟨_, rfl⟩
  obtain ⟨⟨k, hk, hkind⟩, -⟩ := id hc
  have hfind : [m].find? (· < 0) = none := by simp [hm]
  unfold multianewarray.make
  simp only [wp_bind', Jvm.W.ite, if_neg hn, wp_pure', Jvm.W.theClass, hk, Option.some.injEq, exists_eq_left', hkind]
  simp only [hN] at hn1 hn2 h3 h4 hq ⊢
  have hmul : 0 ≤ N * m.toNatClampNeg := Nat.zero_le _
  refine mz_new (v := .null) hk hkind hn1 hn2 rfl rfl (by omega) (by omega) ?_
  simp only [hfind, ite_self, wp_bind']
  rw [Std.Legacy.Range.forIn_eq_forIn_range', show ([:N] : Std.Legacy.Range).size = N by simp [Std.Legacy.Range.size]]
  refine wp_forIn_inv (fun rest s' => ∃ i, rest = List.range' i (N - i) ∧ i ≤ N ∧ s' = mz_st s cA cI N m.toNatClampNeg i) _ _ ⟨0, rfl, Nat.zero_le _, rfl⟩ ?_ ?_
  · rintro x rest s' d' acts' Q' ⟨i, hl, hi, rfl⟩ nx
    have hlt : i < N := Nat.lt_of_le_of_ne hi (fun z => by rw [z, Nat.sub_self] at hl; cases hl)
    obtain ⟨q1, q2⟩ : x = i ∧ rest = List.range' (i + 1) (N - (i + 1)) := by
      rw [show N - i = N - (i + 1) + 1 by omega, List.range'_succ] at hl
      exact ⟨(List.cons.inj hl).1, (List.cons.inj hl).2⟩
    subst q1
    obtain ⟨f1, f2, f3, f4, -, -⟩ := mz_is s cA cI N m.toNatClampNeg x
    have hle : (x + 1) * m.toNatClampNeg ≤ N * m.toNatClampNeg := Nat.mul_le_mul_right _ hlt
    rw [Nat.succ_mul] at hle
    simp only [wp_bind']
    refine mz_row (cA := cA) (by rw [f3]; exact hc) hm h1 h2 (by omega) (by omega) ?_
    have hz : s.heap.size < (mz_st s cA cI N m.toNatClampNeg x).heap.size := by omega
    simp only [wp_bind', Jvm.W.writeLoc, wp_pure']
    refine ⟨arrV cA N (fun j => if j < x then .ref (s.heap.size + 1 + j) else .null), (State.heap_pushCell_of_lt _ _ hz).trans f2, fun z => (by cases z), by rw [arrV_size]; exact hlt, ?_, nx _ _ _ ⟨x + 1, q2, hlt, ?_⟩⟩
    · show State.fitsSlot _ cA .none x _ = true
      simp [State.fitsSlot, State.slotType?, f3, hk, hkind, fits]
    · rw [arrV_store, f1, mz_cell]
      rfl
  · rintro s' d' acts' ⟨i, hl, hi, rfl⟩
    have hiN : i = N := Classical.byContradiction (fun z => by
      rw [show N - i = N - (i + 1) + 1 by omega, List.range'_succ] at hl
      cases hl)
    subst hiN
    exact hq _ _
end MZ
section MY
variable {p : Program} {l : Launch} {e : Env} {R : Room} {s : State} {m : MethodId} {args : Array Value} {below : List Frame} {meth : Method} {c : Code} {T : State} {locs : List Loc} {cells slots : Nat}
theorem mz_stand (X : Stand p l e R s m args below meth c T locs cells slots) (cA cI : ClassId) (N K : Nat) : ∀ i, ∃ J : List Loc, (∀ q ∈ J, q.base = T.heap.size) ∧ Stand p l e R s m args below meth c (mz_st T cA cI N K i) (locs ++ J) (cells + (1 + i)) (slots + (N + i * K))
  | 0 => ⟨[], fun q hq => absurd hq List.not_mem_nil, by
    have h := X.pushed (arrV cA N (fun _ => .null))
    rw [arrV_size] at h
    simpa [mz_st] using h⟩
  | i + 1 => by
    obtain ⟨J, hJ, Xi⟩ := mz_stand X cA cI N K i
    obtain ⟨f1, f2, -⟩ := mz_is T cA cI N K i
    have hz : T.heap.size < (mz_st T cA cI N K i).heap.size := by omega
    have h := (Xi.pushed (arrV cI K (fun _ => .int 0))).stored ((State.heap_pushCell_of_lt _ _ hz).trans f2) i (.ref (T.heap.size + 1 + i))
    rw [arrV_size, arrV_store] at h
    refine ⟨J ++ [⟨T.heap.size, i⟩], fun q hq => ?_, ?_⟩
    · rcases List.mem_append.mp hq with hq | hq
      · exact hJ q hq
      · rw [List.mem_singleton.mp hq]
    · have e1 : cells + (1 + i) + 1 = cells + (1 + (i + 1)) := by omega
      have e2 : slots + (N + i * K) + K = slots + (N + (i + 1) * K) := by rw [Nat.succ_mul]; omega
      rw [e1, e2, mz_cell, List.append_assoc] at h
      exact h
theorem mz_op (X : Stand p l e R s m args below meth c T locs cells slots) (hexec : p.tables.exec = Jvm.exec) {own : String} {index : Nat} (hown : s.vm.findClass own = some m.cls) (hlk : (Cond.classLink own index ("[" ++ (FieldType.array .int).toString)).before args s = true) (hov : (Cond.arrayOver (.array .int)).before args s = true) (hac : (Cond.arrayClass .int).before args s = true)
    {g : JFrame} (hg : g.method = m) (hd : decode c.code g.pc = .ok (.multianewarray index 2, 4)) {n k : Int32} {rest : List Value} (hst : g.stack = .int k :: .int n :: rest) (hn : ¬ n < 0) (hk : ¬ k < 0) (h3 : n.toNatClampNeg ≤ 64) (h4 : k.toNatClampNeg ≤ 64) (hc : cells + (1 + n.toNatClampNeg) ≤ R.cells) (hs : slots + (n.toNatClampNeg + n.toNatClampNeg * k.toNatClampNeg) ≤ R.slots) :
    ∃ (vm₁ : Vm) (cA cI : ClassId), s.vm.findClass ("[" ++ (FieldType.array .int).toString) = some cA ∧ s.vm.findClass (FieldType.array .int).toString = some cI ∧ Stand p l e R s m args below meth c (mz_st (T.setVm vm₁) cA cI n.toNatClampNeg k.toNatClampNeg n.toNatClampNeg) locs (cells + (1 + n.toNatClampNeg)) (slots + (n.toNatClampNeg + n.toNatClampNeg * k.toNatClampNeg)) ∧
      ∀ t, Steps p.tables e below ((mz_st (T.setVm vm₁) cA cI n.toNatClampNeg k.toNatClampNeg n.toNatClampNeg).setTop { g with pc := g.pc + 4, stack := .ref T.heap.size :: rest }) t → Steps p.tables e below (T.setTop g) t := by
  subst hg
  obtain ⟨cI, cA, kA, eI, -, gA, hA, eA⟩ := arrayOverA_spec hov
  obtain ⟨cI', kI, cc, eI', gI, hI⟩ := Cond.arrayClass_spec hac
  have hcc : cI' = cI := Option.some.inj (eI'.symm.trans eI)
  subst hcc
  obtain ⟨c0, e0, hres⟩ := Cond.classLink_spec hown hlk e.platform (by rw [X.admits.platform])
  have hc0 : c0 = cA := Option.some.inj (e0.symm.trans eA)
  subst hc0
  obtain ⟨hgv, hwm, -⟩ := State.classEntry (e := e) X.warmed hres
  generalize T.vm.noted g.method.cls index (.cls c0) = vm₁ at hgv hwm
  have hal : s.vm.Alike vm₁ := hwm.alike
  have hcl : mz_Cl vm₁ c0 cI' := by
    obtain ⟨k1, r1, r2⟩ := hal.2.2 _ _ gA
    obtain ⟨k2, r3, r4⟩ := hal.2.2 _ _ gI
    exact ⟨⟨k1, r1, by rw [r2]; exact hA⟩, k2, cc, r3, by rw [r4]; exact hI⟩
  have X1 := X.noted hwm
  obtain ⟨hr1, hr2⟩ := X.roomAbove hc hs
  obtain ⟨J, hJ, XJ⟩ := mz_stand X1 c0 cI' n.toNatClampNeg k.toNatClampNeg n.toNatClampNeg
  have XF := XJ.dropFresh (fun q hq => by rw [hJ q hq]; exact X.heapGrown)
  refine ⟨vm₁, c0, cI', eA, eI, XF, fun t ht => ?_⟩
  have l1 : ¬ n.toNatClampNeg > e.platform.arrayLengthLimit := by rw [Launch.admits_arrayLengthLimit X.admits]; omega
  have l2 : ¬ n.toNatClampNeg * 4 > e.platform.maxHeapBytes := by rw [Launch.admits_maxHeapBytes X.admits]; omega
  have l3 : ¬ k.toNatClampNeg > e.platform.arrayLengthLimit := by rw [Launch.admits_arrayLengthLimit X.admits]; omega
  have l4 : ¬ k.toNatClampNeg * 4 > e.platform.maxHeapBytes := by rw [Launch.admits_maxHeapBytes X.admits]; omega
  jvm_step X.here [hexec, hd]
  unfold multianewarray.sem
  simp only [wp_bind', Jvm.W.resolveClassAt_links (State.method?_setTop g X.here.top) hgv]
  rw [Jvm.W.popN, if_neg (by decide)]
  refine ⟨g, State.topJava?_setTop' (s := T.setVm vm₁) g X.here.top, [.int n, .int k], rest, rfl, hst, ?_⟩
  simp only [List.mapM_cons, List.mapM_nil, wp_bind', wp_pure']
  have hsame : ((T.setTop g).setVm vm₁).setTop { g with stack := rest } = (T.setVm vm₁).setTop { g with stack := rest } := by
    show ((T.setVm vm₁).setTop g).setTop _ = _
    rw [State.setTop_setTop]
  rw [hsame]
  refine mz_make (s := (T.setVm vm₁).setTop { g with stack := rest }) (cA := c0) (cI := cI') hcl hn hk l1 l2 l3 l4 hr1 hr2 (fun d' acts' => ?_)
  rw [mz_top]
  simp only [wp_bind', Jvm.W.mark, Jvm.W.pushRef, State.topJava?_setTop' _ XF.here.top, Option.some.injEq, exists_eq_left', State.setTop_setTop, State.heap_setTop]
  intro acts
  simp [jvm, XF.here.top]
  exact ht
end MY
