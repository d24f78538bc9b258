/-! one step of a method as a formula: V of a place is V of the places behind its instruction, with what the instruction asks -/
def nw_pI (st : List Value) (k : Int32 → List Value → Prop) : Prop := match st with
  | .int x :: r => k x r
  | _ => False
theorem nw_pI_ok {st : List Value} {k : Int32 → List Value → Prop} (h : nw_pI st k) : ∃ (x : Int32) (r : List Value), st = .int x :: r ∧ k x r := by
  unfold nw_pI at h
  split at h
  · exact ⟨_, _, rfl, h⟩
  · exact h.elim
def nw_pL (st : List Value) (k : Int64 → List Value → Prop) : Prop := match st with
  | .long x :: r => k x r
  | _ => False
theorem nw_pL_ok {st : List Value} {k : Int64 → List Value → Prop} (h : nw_pL st k) : ∃ (x : Int64) (r : List Value), st = .long x :: r ∧ k x r := by
  unfold nw_pL at h
  split at h
  · exact ⟨_, _, rfl, h⟩
  · exact h.elim
def nw_pA (st : List Value) (k : Nat → List Value → Prop) : Prop := match st with
  | .ref a :: r => k a r
  | _ => False
theorem nw_pA_ok {st : List Value} {k : Nat → List Value → Prop} (h : nw_pA st k) : ∃ (a : Nat) (r : List Value), st = .ref a :: r ∧ k a r := by
  unfold nw_pA at h
  split at h
  · exact ⟨_, _, rfl, h⟩
  · exact h.elim
def nw_pII (st : List Value) (k : Int32 → Int32 → List Value → Prop) : Prop := match st with
  | .int y :: .int x :: r => k x y r
  | _ => False
theorem nw_pII_ok {st : List Value} {k : Int32 → Int32 → List Value → Prop} (h : nw_pII st k) : ∃ (x : Int32) (y : Int32) (r : List Value), st = .int y :: .int x :: r ∧ k x y r := by
  unfold nw_pII at h
  split at h
  · exact ⟨_, _, _, rfl, h⟩
  · exact h.elim
def nw_pLL (st : List Value) (k : Int64 → Int64 → List Value → Prop) : Prop := match st with
  | .long y :: .long x :: r => k x y r
  | _ => False
theorem nw_pLL_ok {st : List Value} {k : Int64 → Int64 → List Value → Prop} (h : nw_pLL st k) : ∃ (x : Int64) (y : Int64) (r : List Value), st = .long y :: .long x :: r ∧ k x y r := by
  unfold nw_pLL at h
  split at h
  · exact ⟨_, _, _, rfl, h⟩
  · exact h.elim
def nw_pIL (st : List Value) (k : Int64 → Int32 → List Value → Prop) : Prop := match st with
  | .int y :: .long x :: r => k x y r
  | _ => False
theorem nw_pIL_ok {st : List Value} {k : Int64 → Int32 → List Value → Prop} (h : nw_pIL st k) : ∃ (x : Int64) (y : Int32) (r : List Value), st = .int y :: .long x :: r ∧ k x y r := by
  unfold nw_pIL at h
  split at h
  · exact ⟨_, _, _, rfl, h⟩
  · exact h.elim
def nw_pIA (st : List Value) (k : Int32 → Nat → List Value → Prop) : Prop := match st with
  | .int i :: .ref a :: r => k i a r
  | _ => False
theorem nw_pIA_ok {st : List Value} {k : Int32 → Nat → List Value → Prop} (h : nw_pIA st k) : ∃ (i : Int32) (a : Nat) (r : List Value), st = .int i :: .ref a :: r ∧ k i a r := by
  unfold nw_pIA at h
  split at h
  · exact ⟨_, _, _, rfl, h⟩
  · exact h.elim
def nw_pIIA (st : List Value) (k : Int32 → Int32 → Nat → List Value → Prop) : Prop := match st with
  | .int x :: .int i :: .ref a :: r => k x i a r
  | _ => False
theorem nw_pIIA_ok {st : List Value} {k : Int32 → Int32 → Nat → List Value → Prop} (h : nw_pIIA st k) : ∃ (x : Int32) (i : Int32) (a : Nat) (r : List Value), st = .int x :: .int i :: .ref a :: r ∧ k x i a r := by
  unfold nw_pIIA at h
  split at h
  · exact ⟨_, _, _, _, rfl, h⟩
  · exact h.elim
def nw_pLIA (st : List Value) (k : Int64 → Int32 → Nat → List Value → Prop) : Prop := match st with
  | .long x :: .int i :: .ref a :: r => k x i a r
  | _ => False
theorem nw_pLIA_ok {st : List Value} {k : Int64 → Int32 → Nat → List Value → Prop} (h : nw_pLIA st k) : ∃ (x : Int64) (i : Int32) (a : Nat) (r : List Value), st = .long x :: .int i :: .ref a :: r ∧ k x i a r := by
  unfold nw_pLIA at h
  split at h
  · exact ⟨_, _, _, _, rfl, h⟩
  · exact h.elim
def nw_pAIA (st : List Value) (k : Nat → Int32 → Nat → List Value → Prop) : Prop := match st with
  | .ref q :: .int i :: .ref a :: r => k q i a r
  | _ => False
theorem nw_pAIA_ok {st : List Value} {k : Nat → Int32 → Nat → List Value → Prop} (h : nw_pAIA st k) : ∃ (q : Nat) (i : Int32) (a : Nat) (r : List Value), st = .ref q :: .int i :: .ref a :: r ∧ k q i a r := by
  unfold nw_pAIA at h
  split at h
  · exact ⟨_, _, _, _, rfl, h⟩
  · exact h.elim
def nw_gI (lv : List Value) (i : Nat) (k : Int32 → Prop) : Prop := match nw_at lv i with
  | some (.int x) => k x
  | _ => False
theorem nw_gI_ok {lv : List Value} {i : Nat} {k : Int32 → Prop} (h : nw_gI lv i k) : ∃ x : Int32, nw_at lv i = some (.int x) ∧ k x := by
  unfold nw_gI at h
  split at h
  · rename_i x hx
    exact ⟨x, hx, h⟩
  · exact h.elim
def nw_gL (lv : List Value) (i : Nat) (k : Int64 → Prop) : Prop := match nw_at lv i with
  | some (.long x) => k x
  | _ => False
theorem nw_gL_ok {lv : List Value} {i : Nat} {k : Int64 → Prop} (h : nw_gL lv i k) : ∃ x : Int64, nw_at lv i = some (.long x) ∧ k x := by
  unfold nw_gL at h
  split at h
  · rename_i x hx
    exact ⟨x, hx, h⟩
  · exact h.elim
def nw_gA (lv : List Value) (i : Nat) (k : Nat → Prop) : Prop := match nw_at lv i with
  | some (.ref x) => k x
  | _ => False
theorem nw_gA_ok {lv : List Value} {i : Nat} {k : Nat → Prop} (h : nw_gA lv i k) : ∃ x : Nat, nw_at lv i = some (.ref x) ∧ k x := by
  unfold nw_gA at h
  split at h
  · rename_i x hx
    exact ⟨x, hx, h⟩
  · exact h.elim
def nw_jp (pc : Nat) (off : Int) (k : Nat → Prop) : Prop := match nw_tg pc off with
  | some t => k t
  | none => False
theorem nw_jp_ok {pc : Nat} {off : Int} {k : Nat → Prop} (h : nw_jp pc off k) : ∃ t : Nat, (pc : Int) + off = (t : Int) ∧ k t := by
  unfold nw_jp at h
  split at h
  · rename_i t ht
    exact ⟨t, nw_tg_ok ht, h⟩
  · exact h.elim
def nw_popn : Nat → List Value → List Value → (List Value → List Value → Prop) → Prop
  | 0, acc, st, f => f acc st
  | n + 1, acc, v :: st, f => nw_popn n (v :: acc) st f
  | _ + 1, _, [], _ => False
theorem nw_popn_ok : ∀ (n : Nat) (acc st : List Value) {f : List Value → List Value → Prop}, nw_popn n acc st f → ∃ (bs r : List Value), bs.length = n ∧ st = bs ++ r ∧ f (bs.reverse ++ acc) r
  | 0, acc, st, f, h => ⟨[], st, rfl, rfl, h⟩
  | n + 1, acc, v :: st, f, h => by
    obtain ⟨bs, r, h1, h2, h3⟩ := nw_popn_ok n (v :: acc) st h
    exact ⟨v :: bs, r, by simp [h1], by simp [h2], by simpa using h3⟩
  | n + 1, acc, [], f, h => False.elim h
def nw_rok (M : nw_M) (x : Int32) : Prop := match nw_rt M with
  | some .int => True
  | some .boolean => x = nI 0 ∨ x = nI 1
  | _ => False
theorem nw_rok_ok {M : nw_M} {x : Int32} (h : nw_rok M x) : nw_ri M .ireturn (some (.int x)) := by
  unfold nw_rok at h
  split at h
  · rename_i ht
    exact Or.inr ⟨x, .int, rfl, rfl, ht, rfl⟩
  · rename_i ht
    refine Or.inr ⟨x, .boolean, rfl, rfl, ht, ?_⟩
    rcases h with rfl | rfl <;> rfl
  · exact h.elim
def nw_wok (t : FieldType) (x : Int32) : Prop := match t with
  | .int => True
  | .boolean => x = nI 0 ∨ x = nI 1
  | _ => False
theorem nw_wok_ok {t : FieldType} {x : Int32} (h : nw_wok t x) : nw_isR t = false ∧ narrow t (.int x) = .int x ∧ fits t (.int x) = true := by
  unfold nw_wok at h
  split at h
  · exact ⟨rfl, rfl, rfl⟩
  · rcases h with rfl | rfl
    · exact ⟨rfl, rfl, rfl⟩
    · exact ⟨rfl, rfl, rfl⟩
  · exact h.elim
def nw_fok (M : nw_M) (ci k : Nat) : Bool := !(nw_T ci k).2.2.2 || (((nw_y M).name == "<init>") && (nw_on M == ci))
theorem nw_fok_ok {M : nw_M} {ci k : Nat} (h : nw_fok M ci k = true) : (nw_T ci k).2.2.2 = false ∨ ((nw_y M).name = "<init>" ∧ nw_on M = ci) := by
  unfold nw_fok at h
  simp only [Bool.or_eq_true, Bool.and_eq_true, beq_iff_eq, Bool.not_eq_true'] at h
  exact h
def nw_obr (w : nw_W) (a : Nat) : Prop := 19 ≤ nw_kd w a ∧ nw_kd w a < 23 ∧ 1 ≤ a ∧ a ≤ nw_sz w
def nw_oba (w : nw_W) (a : Nat) : Prop := a = 0 ∨ (16 ≤ nw_kd w a ∧ nw_kd w a < 23 ∧ 1 ≤ a ∧ a ≤ nw_sz w)
def nw_cd (c : Jvm.ClassFile.Cond) (x y : Int32) : Prop := match c with
  | .eq => x = y
  | .ne => ¬ x = y
  | .lt => x < y
  | .ge => y ≤ x
  | .gt => y < x
  | .le => x ≤ y
def nw_ak (t : ArrayType) : Nat := match t with
  | .int => 16
  | .long => 17
  | .boolean => 18
  | _ => 0
theorem nw_ak_ok {t : ArrayType} (h : nw_ak t ≠ 0) : (t = .int ∧ nw_ak t = 16) ∨ (t = .long ∧ nw_ak t = 17) ∨ (t = .boolean ∧ nw_ak t = 18) := by
  cases t <;> first | exact Or.inl ⟨rfl, rfl⟩ | exact Or.inr (Or.inl ⟨rfl, rfl⟩) | exact Or.inr (Or.inr ⟨rfl, rfl⟩) | exact absurd rfl h
theorem nw_cats : ∀ (st : List Value), (st.map fun v => v.category).sum ≤ 2 * st.length
  | [] => Nat.le_refl _
  | v :: r => by
    have h1 := nw_cats r
    have h2 : v.category ≤ 2 := by cases v <;> simp [Value.category]
    simp only [List.map_cons, List.sum_cons, List.length_cons]
    omega
/-- a call of M' -/
def nw_do (M' : nw_M) (As : List Value) (w : nw_W) (bc bs : Nat) (f : Option Value → nw_W → Nat → Nat → Prop) : Prop := ∃ mc ms : Nat, mc ≤ bc ∧ ms ≤ bs ∧ V M' 0 (nw_ent M' As) [] w mc ms (fun r w' => f r w' (bc - mc) (bs - ms))
def nw_tsw : List Int → Int → Int → (Int → Prop) → Prop
  | [], _, _, _ => True
  | f :: r, k, x, g => (x = k → g f) ∧ nw_tsw r (k + 1) x g
theorem nw_tsw_ok : ∀ (l : List Int) (k x : Int) {g : Int → Prop}, nw_tsw l k x g → ∀ j : Nat, x = k + j → ∀ f, l[j]? = some f → g f
  | [], k, x, g, h, j, hj, f, hf => by simp at hf
  | a :: r, k, x, g, h, 0, hj, f, hf => by
    simp at hf
    subst hf
    exact h.1 (by simpa using hj)
  | a :: r, k, x, g, h, j + 1, hj, f, hf => nw_tsw_ok r (k + 1) x h.2 j (by rw [hj]; push_cast; omega) f (by simpa using hf)
def nw_ex (M : nw_M) (K : Nat → List Value → List Value → nw_W → Nat → Nat → Prop) (Q : Option Value → nw_W → Prop) (i : Instr) (n pc : Nat) (lv st : List Value) (w : nw_W) (bc bs : Nat) : Prop := match i with
  | .iconst v => n = 1 ∧ K (pc + 1) lv (.int (Int32.ofInt v) :: st) w bc bs
  | .bipush v => n = 2 ∧ K (pc + 2) lv (.int (Int8.ofInt v).toInt32 :: st) w bc bs
  | .sipush v => n = 3 ∧ K (pc + 3) lv (.int (Int16.ofInt v).toInt32 :: st) w bc bs
  | .lconst v => n = 1 ∧ K (pc + 1) lv (.long (Int64.ofNat (v : Nat)) :: st) w bc bs
  | .ldc i => n = 2 ∧ ∃ v, nw_k (nw_on M) i = some v ∧ K (pc + 2) lv (.int v :: st) w bc bs
  | .ldc2_w i => n = 3 ∧ ∃ v, nw_kl (nw_on M) i = some v ∧ K (pc + 3) lv (.long v :: st) w bc bs
  | .iload i => n = 2 ∧ nw_gI lv i fun x => K (pc + 2) lv (.int x :: st) w bc bs
  | .iload_n i => n = 1 ∧ nw_gI lv (i : Nat) fun x => K (pc + 1) lv (.int x :: st) w bc bs
  | .lload i => n = 2 ∧ nw_gL lv i fun x => K (pc + 2) lv (.long x :: st) w bc bs
  | .lload_n i => n = 1 ∧ nw_gL lv (i : Nat) fun x => K (pc + 1) lv (.long x :: st) w bc bs
  | .aload i => n = 2 ∧ nw_gA lv i fun x => K (pc + 2) lv (.ref x :: st) w bc bs
  | .aload_n i => n = 1 ∧ nw_gA lv (i : Nat) fun x => K (pc + 1) lv (.ref x :: st) w bc bs
  | .istore i => n = 2 ∧ nw_pI st fun x r => nw_nl lv i = true ∧ i < nw_ml M ∧ K (pc + 2) (nw_put lv i (.int x)) r w bc bs
  | .istore_n i => n = 1 ∧ nw_pI st fun x r => nw_nl lv (i : Nat) = true ∧ (i : Nat) < nw_ml M ∧ K (pc + 1) (nw_put lv (i : Nat) (.int x)) r w bc bs
  | .astore i => n = 2 ∧ nw_pA st fun x r => nw_nl lv i = true ∧ i < nw_ml M ∧ K (pc + 2) (nw_put lv i (.ref x)) r w bc bs
  | .astore_n i => n = 1 ∧ nw_pA st fun x r => nw_nl lv (i : Nat) = true ∧ (i : Nat) < nw_ml M ∧ K (pc + 1) (nw_put lv (i : Nat) (.ref x)) r w bc bs
  | .lstore i => n = 2 ∧ nw_pL st fun x r => nw_nl lv i = true ∧ i + 1 < nw_ml M ∧ K (pc + 2) (nw_put (nw_put lv i (.long x)) (i + 1) nw_u) r w bc bs
  | .iinc i v => n = 3 ∧ nw_gI lv i fun x => nw_nl lv i = true ∧ i < nw_ml M ∧ K (pc + 3) (nw_put lv i (.int (x + Int32.ofInt v))) st w bc bs
  | .iadd => n = 1 ∧ nw_pII st fun x y r => K (pc + 1) lv (.int (x + y) :: r) w bc bs
  | .isub => n = 1 ∧ nw_pII st fun x y r => K (pc + 1) lv (.int (x - y) :: r) w bc bs
  | .imul => n = 1 ∧ nw_pII st fun x y r => K (pc + 1) lv (.int (x * y) :: r) w bc bs
  | .iand => n = 1 ∧ nw_pII st fun x y r => K (pc + 1) lv (.int (x &&& y) :: r) w bc bs
  | .ior => n = 1 ∧ nw_pII st fun x y r => K (pc + 1) lv (.int (x ||| y) :: r) w bc bs
  | .ishl => n = 1 ∧ nw_pII st fun x y r => K (pc + 1) lv (.int (x <<< (y &&& 31)) :: r) w bc bs
  | .ishr => n = 1 ∧ nw_pII st fun x y r => K (pc + 1) lv (.int (x >>> (y &&& 31)) :: r) w bc bs
  | .ineg => n = 1 ∧ nw_pI st fun x r => K (pc + 1) lv (.int (-x) :: r) w bc bs
  | .i2l => n = 1 ∧ nw_pI st fun x r => K (pc + 1) lv (.long x.toInt64 :: r) w bc bs
  | .l2i => n = 1 ∧ nw_pL st fun x r => K (pc + 1) lv (.int x.toInt32 :: r) w bc bs
  | .lshl => n = 1 ∧ nw_pIL st fun x y r => K (pc + 1) lv (.long (x <<< (y.toInt64 &&& 63)) :: r) w bc bs
  | .lshr => n = 1 ∧ nw_pIL st fun x y r => K (pc + 1) lv (.long (x >>> (y.toInt64 &&& 63)) :: r) w bc bs
  | .lushr => n = 1 ∧ nw_pIL st fun x y r => K (pc + 1) lv (.long (nw_ushr x y) :: r) w bc bs
  | .land => n = 1 ∧ nw_pLL st fun x y r => K (pc + 1) lv (.long (x &&& y) :: r) w bc bs
  | .lor => n = 1 ∧ nw_pLL st fun x y r => K (pc + 1) lv (.long (x ||| y) :: r) w bc bs
  | .lcmp => n = 1 ∧ nw_pLL st fun x y r => K (pc + 1) lv (.int (lg_cmp x y) :: r) w bc bs
  | .dup => n = 1 ∧ match st with
    | v :: r => v.category = 1 ∧ K (pc + 1) lv (v :: v :: r) w bc bs
    | _ => False
  | .dup2 => n = 1 ∧ match st with
    | v :: u :: r => v.category = 1 ∧ u.category = 1 ∧ K (pc + 1) lv (v :: u :: v :: u :: r) w bc bs
    | _ => False
  | .ifCond c off => n = 3 ∧ nw_pI st fun x r => nw_jp pc off fun t => (nw_cd c x (nI 0) → K t lv r w bc bs) ∧ (¬ nw_cd c x (nI 0) → K (pc + 3) lv r w bc bs)
  | .if_icmp c off => n = 3 ∧ nw_pII st fun x y r => nw_jp pc off fun t => (nw_cd c x y → K t lv r w bc bs) ∧ (¬ nw_cd c x y → K (pc + 3) lv r w bc bs)
  | .goto off => n = 3 ∧ nw_jp pc off fun t => K t lv st w bc bs
  | .tableswitch d lo hi offs => nw_pI st fun x r => hi = lo + offs.size - 1 ∧ (x.toInt < lo ∨ hi < x.toInt → nw_jp pc d fun t => K t lv r w bc bs) ∧ nw_tsw offs.toList lo x.toInt fun off => nw_jp pc off fun t => K t lv r w bc bs
  | .lookupswitch d ps => nw_pI st fun x r => (ps.toList.zip (ps.toList.drop 1)).all (fun (a, next) => a.1 < next.1) = true ∧ nw_jp pc (Op.lookupswitch.offset ps.toList d x.toInt) fun t => K t lv r w bc bs
  | .getfield i => n = 3 ∧ nw_pA st fun a r => ∃ ci k, nw_fl (nw_on M) i = some (ci, k) ∧ nw_ob w a ci ∧ K (pc + 3) lv (nw_fv w a ci k :: r) w bc bs
  | .putfield i => n = 3 ∧ match st with
    | .int x :: .ref a :: r => ∃ ci k, nw_fl (nw_on M) i = some (ci, k) ∧ nw_fok M ci k = true ∧ nw_wok (nw_ty ci k) x ∧ nw_ob w a ci ∧ K (pc + 3) lv r (nw_setI w a (upd (nw_I w a) k x)) bc bs
    | .ref q :: .ref a :: r => ∃ ci k, nw_fl (nw_on M) i = some (ci, k) ∧ nw_fok M ci k = true ∧ nw_isR (nw_ty ci k) = true ∧ nw_ob w a ci ∧ K (pc + 3) lv r (nw_setR w a (va_up (nw_rf w a) k (some q))) bc bs
    | _ => False
  | .iaload => n = 1 ∧ nw_pIA st fun i a r => (a = 0 ∨ nw_ob w a 16) ∧ vp_in i (nw_ln w a) ∧ K (pc + 1) lv (.int (nw_I w a i.toNatClampNeg) :: r) w bc bs
  | .baload => n = 1 ∧ nw_pIA st fun i a r => nw_ob w a 18 ∧ vp_in i (nw_ln w a) ∧ K (pc + 1) lv (.int (nw_I w a i.toNatClampNeg) :: r) w bc bs
  | .laload => n = 1 ∧ nw_pIA st fun i a r => nw_ob w a 17 ∧ vp_in i (nw_ln w a) ∧ K (pc + 1) lv (.long (nw_L w a i.toNatClampNeg) :: r) w bc bs
  | .aaload => n = 1 ∧ nw_pIA st fun i a r => nw_obr w a ∧ vp_in i (nw_ln w a) ∧ K (pc + 1) lv (va_rf (nw_rf w a i.toNatClampNeg) :: r) w bc bs
  | .arraylength => n = 1 ∧ nw_pA st fun a r => nw_oba w a ∧ K (pc + 1) lv (.int (nI (nw_ln w a)) :: r) w bc bs
  | .iastore => n = 1 ∧ nw_pIIA st fun x i a r => nw_ob w a 16 ∧ vp_in i (nw_ln w a) ∧ K (pc + 1) lv r (nw_setI w a (upd (nw_I w a) i.toNatClampNeg x)) bc bs
  | .bastore => n = 1 ∧ nw_pIIA st fun x i a r => nw_ob w a 18 ∧ vp_in i (nw_ln w a) ∧ (x = nI 0 ∨ x = nI 1) ∧ K (pc + 1) lv r (nw_setI w a (upd (nw_I w a) i.toNatClampNeg x)) bc bs
  | .lastore => n = 1 ∧ nw_pLIA st fun x i a r => nw_ob w a 17 ∧ vp_in i (nw_ln w a) ∧ K (pc + 1) lv r (nw_setL w a (vp_updL (nw_L w a) i.toNatClampNeg x)) bc bs
  | .aastore => n = 1 ∧ nw_pAIA st fun q i a r => ∃ kd ci, ((kd = 20 ∧ ci = 4) ∨ (kd = 21 ∧ ci = 0) ∨ (kd = 22 ∧ ci = 1)) ∧ nw_ob w a kd ∧ nw_ob w q ci ∧ vp_in i (nw_ln w a) ∧ K (pc + 1) lv r (nw_setR w a (va_up (nw_rf w a) i.toNatClampNeg (some q))) bc bs
  | .new i => n = 3 ∧ ∃ ci, nw_cn (nw_on M) i = some ci ∧ 1 ≤ bc ∧ nw_N ci ≤ bs ∧ K (pc + 3) lv (.ref (nw_sz w + 1) :: st) (nw_new w ci 0) (bc - 1) (bs - nw_N ci)
  | .newarray t => n = 2 ∧ nw_pI st fun x r => nw_ak t ≠ 0 ∧ ¬ x < 0 ∧ x.toNatClampNeg ≤ 65536 ∧ 1 ≤ bc ∧ x.toNatClampNeg ≤ bs ∧ K (pc + 2) lv (.ref (nw_sz w + 1) :: r) (nw_new w (nw_ak t) x.toNatClampNeg) (bc - 1) (bs - x.toNatClampNeg)
  | .anewarray i => n = 3 ∧ nw_pI st fun x r => ∃ kd, nw_an (nw_on M) i = some kd ∧ ¬ x < 0 ∧ x.toNatClampNeg ≤ 65536 ∧ 1 ≤ bc ∧ x.toNatClampNeg ≤ bs ∧ K (pc + 3) lv (.ref (nw_sz w + 1) :: r) (nw_new w kd x.toNatClampNeg) (bc - 1) (bs - x.toNatClampNeg)
  | .multianewarray i d => n = 4 ∧ i = 39 ∧ d = 2 ∧ nw_on M = 4 ∧ nw_pII st fun x y r => ¬ x < 0 ∧ ¬ y < 0 ∧ x.toNatClampNeg ≤ 64 ∧ y.toNatClampNeg ≤ 64 ∧ 1 + x.toNatClampNeg ≤ bc ∧ x.toNatClampNeg + x.toNatClampNeg * y.toNatClampNeg ≤ bs ∧ K (pc + 4) lv (.ref (nw_sz w + 1) :: r) (nw_grid w x.toNatClampNeg y.toNatClampNeg) (bc - (1 + x.toNatClampNeg)) (bs - (x.toNatClampNeg + x.toNatClampNeg * y.toNatClampNeg))
  | .ireturn => n = 1 ∧ nw_pI st fun x r => r = [] ∧ nw_rok M x ∧ Q (some (.int x)) w
  | .return_ => n = 1 ∧ st = [] ∧ nw_rt M = none ∧ Q none w
  | .invokestatic i => n = 3 ∧ ((nw_mx (nw_on M) i = some true ∧ nw_pII st fun x y r => 1 ≤ nw_fr M ∧ r.length ≤ 4 ∧ 21 ≤ nw_lo M ∧ K (pc + 3) lv (.int (if x < y then y else x) :: r) w bc bs) ∨ (nw_mx (nw_on M) i = some false ∧ nw_pII st fun x y r => 1 ≤ nw_fr M ∧ r.length ≤ 4 ∧ 21 ≤ nw_lo M ∧ K (pc + 3) lv (.int (if y < x then y else x) :: r) w bc bs) ∨ (nw_mx (nw_on M) i = none ∧ ∃ M', nw_ca (nw_on M) i = some (M', 1) ∧ nw_okc M M' = true ∧ nw_popn (nw_np M') [] st fun As r => r.length ≤ 4 ∧ (nw_flat As).length ≤ nw_ml M' ∧ nw_do M' As w bc bs fun res w' bc' bs' => V M (pc + 3) lv (res.toList ++ r) w' bc' bs' Q))
  | .invokevirtual i => n = 3 ∧ ∃ M', nw_ca (nw_on M) i = some (M', 0) ∧ nw_okc M M' = true ∧ nw_popn (nw_np M') [] st fun As r => nw_pA r fun a r => nw_ob w a (nw_on M') ∧ r.length ≤ 4 ∧ (nw_flat (.ref a :: As)).length ≤ nw_ml M' ∧ nw_do M' (.ref a :: As) w bc bs fun res w' bc' bs' => V M (pc + 3) lv (res.toList ++ r) w' bc' bs' Q
  | .invokespecial i => n = 3 ∧ ((nw_oo (nw_on M) i = true ∧ nw_pA st fun _ r => 1 ≤ nw_fr M ∧ r.length ≤ 4 ∧ 20 ≤ nw_lo M ∧ K (pc + 3) lv r w bc bs) ∨ (nw_oo (nw_on M) i = false ∧ ∃ M', nw_ca (nw_on M) i = some (M', 2) ∧ nw_okc M M' = true ∧ nw_popn (nw_np M') [] st fun As r => nw_pA r fun a r => r.length ≤ 4 ∧ (nw_flat (.ref a :: As)).length ≤ nw_ml M' ∧ nw_do M' (.ref a :: As) w bc bs fun res w' bc' bs' => V M (pc + 3) lv (res.toList ++ r) w' bc' bs' Q))
  | _ => False
theorem V_ex {M : nw_M} {pc n : Nat} {i : Instr} {lv st : List Value} {w : nw_W} {bc bs : Nat} {Q : Option Value → nw_W → Prop} (hd : decode (nw_cc M) pc = .ok (i, n)) {K : Nat → List Value → List Value → nw_W → Nat → Nat → Prop} (hK : ∀ pc lv st w bc bs, K pc lv st w bc bs → V M pc lv st w bc bs Q) (h : nw_ex M K Q i n pc lv st w bc bs) : V M pc lv st w bc bs Q := by
  cases i with
  | iconst v =>
    obtain ⟨rfl, h⟩ := h
    exact V_iconst hd (hK _ _ _ _ _ _ h)
  | bipush v =>
    obtain ⟨rfl, h⟩ := h
    exact V_bipush hd (hK _ _ _ _ _ _ h)
  | sipush v =>
    obtain ⟨rfl, h⟩ := h
    exact V_sipush hd (hK _ _ _ _ _ _ h)
  | lconst v =>
    obtain ⟨rfl, h⟩ := h
    exact V_lconst hd (hK _ _ _ _ _ _ h)
  | ldc i =>
    obtain ⟨rfl, v, hv, h⟩ := h
    exact V_ldc hd (nw_k_ok hv) (hK _ _ _ _ _ _ h)
  | ldc2_w i =>
    obtain ⟨rfl, v, hv, h⟩ := h
    exact V_ldc2 hd (nw_kl_ok hv) (hK _ _ _ _ _ _ h)
  | iload i =>
    obtain ⟨rfl, h⟩ := h
    obtain ⟨x, hx, h⟩ := nw_gI_ok h
    exact V_iload hd hx (hK _ _ _ _ _ _ h)
  | iload_n i =>
    obtain ⟨rfl, h⟩ := h
    obtain ⟨x, hx, h⟩ := nw_gI_ok h
    exact V_iload_n hd hx (hK _ _ _ _ _ _ h)
  | lload i =>
    obtain ⟨rfl, h⟩ := h
    obtain ⟨x, hx, h⟩ := nw_gL_ok h
    exact V_lload hd hx (hK _ _ _ _ _ _ h)
  | lload_n i =>
    obtain ⟨rfl, h⟩ := h
    obtain ⟨x, hx, h⟩ := nw_gL_ok h
    exact V_lload_n hd hx (hK _ _ _ _ _ _ h)
  | aload i =>
    obtain ⟨rfl, h⟩ := h
    obtain ⟨x, hx, h⟩ := nw_gA_ok h
    exact V_aload hd hx (hK _ _ _ _ _ _ h)
  | aload_n i =>
    obtain ⟨rfl, h⟩ := h
    obtain ⟨x, hx, h⟩ := nw_gA_ok h
    exact V_aload_n hd hx (hK _ _ _ _ _ _ h)
  | istore i =>
    obtain ⟨rfl, h⟩ := h
    obtain ⟨x, r, rfl, h1, h2, h⟩ := nw_pI_ok h
    exact V_istore hd h1 h2 (hK _ _ _ _ _ _ h)
  | istore_n i =>
    obtain ⟨rfl, h⟩ := h
    obtain ⟨x, r, rfl, h1, h2, h⟩ := nw_pI_ok h
    exact V_istore_n hd h1 h2 (hK _ _ _ _ _ _ h)
  | astore i =>
    obtain ⟨rfl, h⟩ := h
    obtain ⟨x, r, rfl, h1, h2, h⟩ := nw_pA_ok h
    exact V_astore hd h1 h2 (hK _ _ _ _ _ _ h)
  | astore_n i =>
    obtain ⟨rfl, h⟩ := h
    obtain ⟨x, r, rfl, h1, h2, h⟩ := nw_pA_ok h
    exact V_astore_n hd h1 h2 (hK _ _ _ _ _ _ h)
  | lstore i =>
    obtain ⟨rfl, h⟩ := h
    obtain ⟨x, r, rfl, h1, h2, h⟩ := nw_pL_ok h
    exact V_lstore hd h1 h2 (hK _ _ _ _ _ _ h)
  | iinc i v =>
    obtain ⟨rfl, h⟩ := h
    obtain ⟨x, hx, h1, h2, h⟩ := nw_gI_ok h
    exact V_iinc hd hx h1 h2 (hK _ _ _ _ _ _ h)
  | iadd =>
    obtain ⟨rfl, h⟩ := h
    obtain ⟨x, y, r, rfl, h⟩ := nw_pII_ok h
    exact V_iadd hd (hK _ _ _ _ _ _ h)
  | isub =>
    obtain ⟨rfl, h⟩ := h
    obtain ⟨x, y, r, rfl, h⟩ := nw_pII_ok h
    exact V_isub hd (hK _ _ _ _ _ _ h)
  | imul =>
    obtain ⟨rfl, h⟩ := h
    obtain ⟨x, y, r, rfl, h⟩ := nw_pII_ok h
    exact V_imul hd (hK _ _ _ _ _ _ h)
  | iand =>
    obtain ⟨rfl, h⟩ := h
    obtain ⟨x, y, r, rfl, h⟩ := nw_pII_ok h
    exact V_iand hd (hK _ _ _ _ _ _ h)
  | ior =>
    obtain ⟨rfl, h⟩ := h
    obtain ⟨x, y, r, rfl, h⟩ := nw_pII_ok h
    exact V_ior hd (hK _ _ _ _ _ _ h)
  | ishl =>
    obtain ⟨rfl, h⟩ := h
    obtain ⟨x, y, r, rfl, h⟩ := nw_pII_ok h
    exact V_ishl hd (hK _ _ _ _ _ _ h)
  | ishr =>
    obtain ⟨rfl, h⟩ := h
    obtain ⟨x, y, r, rfl, h⟩ := nw_pII_ok h
    exact V_ishr hd (hK _ _ _ _ _ _ h)
  | ineg =>
    obtain ⟨rfl, h⟩ := h
    obtain ⟨x, r, rfl, h⟩ := nw_pI_ok h
    exact V_ineg hd (hK _ _ _ _ _ _ h)
  | i2l =>
    obtain ⟨rfl, h⟩ := h
    obtain ⟨x, r, rfl, h⟩ := nw_pI_ok h
    exact V_i2l hd (hK _ _ _ _ _ _ h)
  | l2i =>
    obtain ⟨rfl, h⟩ := h
    obtain ⟨x, r, rfl, h⟩ := nw_pL_ok h
    exact V_l2i hd (hK _ _ _ _ _ _ h)
  | lshl =>
    obtain ⟨rfl, h⟩ := h
    obtain ⟨x, y, r, rfl, h⟩ := nw_pIL_ok h
    exact V_lshl hd (hK _ _ _ _ _ _ h)
  | lshr =>
    obtain ⟨rfl, h⟩ := h
    obtain ⟨x, y, r, rfl, h⟩ := nw_pIL_ok h
    exact V_lshr hd (hK _ _ _ _ _ _ h)
  | lushr =>
    obtain ⟨rfl, h⟩ := h
    obtain ⟨x, y, r, rfl, h⟩ := nw_pIL_ok h
    exact V_lushr hd (hK _ _ _ _ _ _ h)
  | land =>
    obtain ⟨rfl, h⟩ := h
    obtain ⟨x, y, r, rfl, h⟩ := nw_pLL_ok h
    exact V_land hd (hK _ _ _ _ _ _ h)
  | lor =>
    obtain ⟨rfl, h⟩ := h
    obtain ⟨x, y, r, rfl, h⟩ := nw_pLL_ok h
    exact V_lor hd (hK _ _ _ _ _ _ h)
  | lcmp =>
    obtain ⟨rfl, h⟩ := h
    obtain ⟨x, y, r, rfl, h⟩ := nw_pLL_ok h
    exact V_lcmp hd (hK _ _ _ _ _ _ h)
  | dup =>
    obtain ⟨rfl, h⟩ := h
    cases st with
    | nil => exact h.elim
    | cons v r => exact V_dup hd h.1 (hK _ _ _ _ _ _ h.2)
  | dup2 =>
    obtain ⟨rfl, h⟩ := h
    cases st with
    | nil => exact h.elim
    | cons v r =>
      cases r with
      | nil => exact h.elim
      | cons u r => exact V_dup2 hd h.1 h.2.1 (hK _ _ _ _ _ _ h.2.2)
  | ifCond c off =>
    obtain ⟨rfl, h⟩ := h
    obtain ⟨x, r, rfl, h⟩ := nw_pI_ok h
    obtain ⟨t, ht, h1, h2⟩ := nw_jp_ok h
    cases c with
    | eq => exact V_if_eq hd ht (fun e => hK _ _ _ _ _ _ (h1 e)) (fun e => hK _ _ _ _ _ _ (h2 e))
    | ne => exact V_if_ne hd ht (fun e => hK _ _ _ _ _ _ (h1 e)) (fun e => hK _ _ _ _ _ _ (h2 (fun q => q e)))
    | lt => exact V_if_lt hd ht (fun e => hK _ _ _ _ _ _ (h1 e)) (fun e => hK _ _ _ _ _ _ (h2 e))
    | ge => exact V_if_ge hd ht (fun e => hK _ _ _ _ _ _ (h1 e)) (fun e => hK _ _ _ _ _ _ (h2 e))
    | gt => exact V_if_gt hd ht (fun e => hK _ _ _ _ _ _ (h1 e)) (fun e => hK _ _ _ _ _ _ (h2 e))
    | le => exact V_if_le hd ht (fun e => hK _ _ _ _ _ _ (h1 e)) (fun e => hK _ _ _ _ _ _ (h2 e))
  | if_icmp c off =>
    obtain ⟨rfl, h⟩ := h
    obtain ⟨x, y, r, rfl, h⟩ := nw_pII_ok h
    obtain ⟨t, ht, h1, h2⟩ := nw_jp_ok h
    cases c with
    | eq => exact V_icmp_eq hd ht (fun e => hK _ _ _ _ _ _ (h1 e)) (fun e => hK _ _ _ _ _ _ (h2 e))
    | ne => exact V_icmp_ne hd ht (fun e => hK _ _ _ _ _ _ (h1 e)) (fun e => hK _ _ _ _ _ _ (h2 (fun q => q e)))
    | lt => exact V_icmp_lt hd ht (fun e => hK _ _ _ _ _ _ (h1 e)) (fun e => hK _ _ _ _ _ _ (h2 e))
    | ge => exact V_icmp_ge hd ht (fun e => hK _ _ _ _ _ _ (h1 e)) (fun e => hK _ _ _ _ _ _ (h2 e))
    | gt => exact V_icmp_gt hd ht (fun e => hK _ _ _ _ _ _ (h1 e)) (fun e => hK _ _ _ _ _ _ (h2 e))
    | le => exact V_icmp_le hd ht (fun e => hK _ _ _ _ _ _ (h1 e)) (fun e => hK _ _ _ _ _ _ (h2 e))
  | goto off =>
    obtain ⟨rfl, h⟩ := h
    obtain ⟨t, ht, h⟩ := nw_jp_ok h
    exact V_goto hd ht (hK _ _ _ _ _ _ h)
  | tableswitch d lo hi offs =>
    obtain ⟨x, r, rfl, hh, h1, h2⟩ := nw_pI_ok h
    by_cases hx : x.toInt < lo ∨ hi < x.toInt
    · obtain ⟨t, ht, h⟩ := nw_jp_ok (h1 hx)
      exact V_tableOut hd hx ht (hK _ _ _ _ _ _ h)
    · have hj : (x.toInt - lo).toNat < offs.toList.length := by rw [Array.length_toList]; omega
      obtain ⟨f, hf⟩ : ∃ f, offs.toList[(x.toInt - lo).toNat]? = some f := ⟨_, List.getElem?_eq_getElem hj⟩
      obtain ⟨t, ht, h⟩ := nw_jp_ok (nw_tsw_ok _ _ _ h2 (x.toInt - lo).toNat (by omega) f hf)
      exact V_tableIn hd (fun q => hx (Or.inl q)) (fun q => hx (Or.inr q)) (by rw [← Array.getElem?_toList]; exact hf) ht (hK _ _ _ _ _ _ h)
  | lookupswitch d ps =>
    obtain ⟨x, r, rfl, hp, h⟩ := nw_pI_ok h
    obtain ⟨t, ht, h⟩ := nw_jp_ok h
    exact V_lookup hd hp rfl ht (hK _ _ _ _ _ _ h)
  | getfield i =>
    obtain ⟨rfl, h⟩ := h
    obtain ⟨a, r, rfl, ci, k, hf, ho, h⟩ := nw_pA_ok h
    exact V_getfield hd hf ho (hK _ _ _ _ _ _ h)
  | putfield i =>
    obtain ⟨rfl, h⟩ := h
    split at h
    · obtain ⟨ci, k, hf, h1, h2, ho, h⟩ := h
      obtain ⟨g1, g2, g3⟩ := nw_wok_ok h2
      exact V_putI hd hf (nw_fok_ok h1) g1 g2 g3 ho (hK _ _ _ _ _ _ h)
    · obtain ⟨ci, k, hf, h1, h2, ho, h⟩ := h
      exact V_putR hd hf (nw_fok_ok h1) h2 ho (hK _ _ _ _ _ _ h)
    · exact h.elim
  | iaload =>
    obtain ⟨rfl, h⟩ := h
    obtain ⟨i, a, r, rfl, ho, hi, h⟩ := nw_pIA_ok h
    rcases ho with rfl | ho
    · exact V_iaload0 hd hi (hK _ _ _ _ _ _ h)
    · exact V_iaload hd ho hi (hK _ _ _ _ _ _ h)
  | baload =>
    obtain ⟨rfl, h⟩ := h
    obtain ⟨i, a, r, rfl, ho, hi, h⟩ := nw_pIA_ok h
    exact V_baload hd ho hi (hK _ _ _ _ _ _ h)
  | laload =>
    obtain ⟨rfl, h⟩ := h
    obtain ⟨i, a, r, rfl, ho, hi, h⟩ := nw_pIA_ok h
    exact V_laload hd ho hi (hK _ _ _ _ _ _ h)
  | aaload =>
    obtain ⟨rfl, h⟩ := h
    obtain ⟨i, a, r, rfl, ho, hi, h⟩ := nw_pIA_ok h
    exact V_aaload hd ⟨rfl, ho.2.2.1, ho.2.2.2⟩ ⟨ho.1, ho.2.1⟩ hi (hK _ _ _ _ _ _ h)
  | arraylength =>
    obtain ⟨rfl, h⟩ := h
    obtain ⟨a, r, rfl, ho, h⟩ := nw_pA_ok h
    rcases ho with rfl | ho
    · exact V_alen0 hd (hK _ _ _ _ _ _ h)
    · exact V_alen hd ⟨rfl, ho.2.2.1, ho.2.2.2⟩ ⟨ho.1, ho.2.1⟩ (hK _ _ _ _ _ _ h)
  | iastore =>
    obtain ⟨rfl, h⟩ := h
    obtain ⟨x, i, a, r, rfl, ho, hi, h⟩ := nw_pIIA_ok h
    exact V_iastore hd ho hi (hK _ _ _ _ _ _ h)
  | bastore =>
    obtain ⟨rfl, h⟩ := h
    obtain ⟨x, i, a, r, rfl, ho, hi, hx, h⟩ := nw_pIIA_ok h
    exact V_bastore hd ho hi (nw_wok_ok (t := .boolean) hx).2.1 (hK _ _ _ _ _ _ h)
  | lastore =>
    obtain ⟨rfl, h⟩ := h
    obtain ⟨x, i, a, r, rfl, ho, hi, h⟩ := nw_pLIA_ok h
    exact V_lastore hd ho hi (hK _ _ _ _ _ _ h)
  | aastore =>
    obtain ⟨rfl, h⟩ := h
    obtain ⟨q, i, a, r, rfl, kd, ci, hk, ho, hq, hi, h⟩ := nw_pAIA_ok h
    exact V_aastore hd hk ho hq hi (hK _ _ _ _ _ _ h)
  | new i =>
    obtain ⟨rfl, ci, hf, h1, h2, h⟩ := h
    exact V_new hd hf h1 h2 (hK _ _ _ _ _ _ h)
  | newarray t =>
    obtain ⟨rfl, h⟩ := h
    obtain ⟨x, r, rfl, hk, h0, h3, h1, h2, h⟩ := nw_pI_ok h
    exact V_newarray hd (nw_ak_ok hk) h0 rfl h3 h1 h2 (hK _ _ _ _ _ _ h)
  | anewarray i =>
    obtain ⟨rfl, h⟩ := h
    obtain ⟨x, r, rfl, kd, hk, h0, h3, h1, h2, h⟩ := nw_pI_ok h
    obtain ⟨g1, g3⟩ := nw_an_ok hk
    exact V_anewarray hd g1 (by rcases g3 with rfl | rfl | rfl <;> simp [nw_anC]) h0 rfl h3 h1 h2 (hK _ _ _ _ _ _ h)
  | multianewarray i d =>
    obtain ⟨rfl, rfl, rfl, hon, h⟩ := h
    obtain ⟨x, y, r, rfl, h1, h2, h3, h4, h5, h6, h⟩ := nw_pII_ok h
    exact V_multi hd hon h1 h2 rfl rfl h3 h4 h5 h6 (hK _ _ _ _ _ _ h)
  | ireturn =>
    obtain ⟨rfl, h⟩ := h
    obtain ⟨x, r, rfl, rfl, h1, h⟩ := nw_pI_ok h
    exact V_end (r := some (.int x)) hd (nw_rok_ok h1) h
  | return_ =>
    obtain ⟨rfl, rfl, h1, h⟩ := h
    exact V_end (r := none) hd (Or.inl ⟨rfl, rfl, h1⟩) h
  | invokestatic i =>
    obtain ⟨rfl, h⟩ := h
    rcases h with ⟨h0, h⟩ | ⟨h0, h⟩ | ⟨-, M', hf, hok, h⟩
    · obtain ⟨x, y, r, rfl, h1, h2, h3, h⟩ := nw_pII_ok h
      have hcat := nw_cats r
      exact V_mmax hd h0 h1 (by omega) (hK _ _ _ _ _ _ h)
    · obtain ⟨x, y, r, rfl, h1, h2, h3, h⟩ := nw_pII_ok h
      have hcat := nw_cats r
      exact V_mmin hd h0 h1 (by omega) (hK _ _ _ _ _ _ h)
    · obtain ⟨bv, r, h1, rfl, h2, h3, mc, ms, h4, h5, h⟩ := nw_popn_ok _ _ _ h
      have hcat := nw_cats r
      rw [List.append_nil] at h3 h
      have h9 := V_callS (As := bv.reverse) hd hf hok (by rw [List.length_reverse]; exact h1) h3 (by omega) h4 h5 h
      rw [List.reverse_reverse] at h9
      exact h9
  | invokevirtual i =>
    obtain ⟨rfl, M', hf, hok, h⟩ := h
    obtain ⟨bv, r0, h1, rfl, hh⟩ := nw_popn_ok _ _ _ h
    obtain ⟨a, r, rfl, ho, h2, h3, mc, ms, h4, h5, h⟩ := nw_pA_ok hh
    have hcat := nw_cats r
    rw [List.append_nil] at h3 h
    have h9 := V_callV (As := bv.reverse) hd hf hok ho (by rw [List.length_reverse]; exact h1) h3 (by omega) h4 h5 h
    rw [List.reverse_reverse] at h9
    exact h9
  | invokespecial i =>
    obtain ⟨rfl, h⟩ := h
    rcases h with ⟨h0, h⟩ | ⟨-, M', hf, hok, h⟩
    · obtain ⟨a, r, rfl, h1, h2, h3, h⟩ := nw_pA_ok h
      have hcat := nw_cats r
      exact V_objInit hd (nw_oo_ok h0) h1 (by omega) (hK _ _ _ _ _ _ h)
    · obtain ⟨bv, r0, h1, rfl, hh⟩ := nw_popn_ok _ _ _ h
      obtain ⟨a, r, rfl, h2, h3, mc, ms, h4, h5, h⟩ := nw_pA_ok hh
      have hcat := nw_cats r
      rw [List.append_nil] at h3 h
      have h9 := V_callI (As := bv.reverse) hd hf hok (by rw [List.length_reverse]; exact h1) h3 (by omega) h4 h5 h
      rw [List.reverse_reverse] at h9
      exact h9
  | _ => exact h.elim
/-- steps of a method, up to places where it stops -/
def nw_sx (M : nw_M) (Q : Option Value → nw_W → Prop) (stops : List Nat) : Nat → Nat → List Value → List Value → nw_W → Nat → Nat → Prop
  | 0, pc, lv, st, w, bc, bs => V M pc lv st w bc bs Q
  | k + 1, pc, lv, st, w, bc, bs => if pc ∈ stops then V M pc lv st w bc bs Q else match decode (nw_cc M) pc with
    | .ok (i, n) => nw_ex M (nw_sx M Q stops k) Q i n pc lv st w bc bs
    | .error _ => False
theorem V_sx {M : nw_M} {Q : Option Value → nw_W → Prop} (stops : List Nat) : ∀ (k pc : Nat) (lv st : List Value) (w : nw_W) (bc bs : Nat), nw_sx M Q stops k pc lv st w bc bs → V M pc lv st w bc bs Q
  | 0, pc, lv, st, w, bc, bs, h => h
  | k + 1, pc, lv, st, w, bc, bs, h => by
    unfold nw_sx at h
    split at h
    · exact h
    · cases hd : decode (nw_cc M) pc with
      | error e => rw [hd] at h; exact h.elim
      | ok x =>
        obtain ⟨i, n⟩ := x
        rw [hd] at h
        exact V_ex hd (fun pc lv st w bc bs => V_sx stops k pc lv st w bc bs) h
/-- the same, the first step taken in any case -/
def nw_s1 (M : nw_M) (Q : Option Value → nw_W → Prop) (stops : List Nat) (k pc : Nat) (lv st : List Value) (w : nw_W) (bc bs : Nat) : Prop := match decode (nw_cc M) pc with
  | .ok (i, n) => nw_ex M (nw_sx M Q stops k) Q i n pc lv st w bc bs
  | .error _ => False
theorem V_s1 {M : nw_M} {Q : Option Value → nw_W → Prop} (stops : List Nat) (k : Nat) {pc : Nat} {lv st : List Value} {w : nw_W} {bc bs : Nat} (h : nw_s1 M Q stops k pc lv st w bc bs) : V M pc lv st w bc bs Q := by
  unfold nw_s1 at h
  cases hd : decode (nw_cc M) pc with
  | error e => rw [hd] at h; exact h.elim
  | ok x =>
    obtain ⟨i, n⟩ := x
    rw [hd] at h
    exact V_ex hd (fun pc lv st w bc bs => V_sx stops k pc lv st w bc bs) h
