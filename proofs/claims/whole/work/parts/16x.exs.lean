def nw_tI : Option Value → Bool
  | some (.int _) => true
  | _ => false
def nw_tL : Option Value → Bool
  | some (.long _) => true
  | _ => false
def nw_tA : Option Value → Bool
  | some (.ref _) => true
  | _ => false
theorem nw_tIs : (∀ x, nw_tI (some (.int x)) = true) ∧ (∀ x, nw_tL (some (.long x)) = true) ∧ (∀ x, nw_tA (some (.ref x)) = true) := ⟨fun _ => rfl, fun _ => rfl, fun _ => rfl⟩
theorem nw_jpx (pc : Nat) (off : Int) (k : Nat → Prop) : nw_jp pc off k = ((nw_tg pc off).isSome = true ∧ k ((nw_tg pc off).getD 0)) := by
  unfold nw_jp
  cases nw_tg pc off <;> simp
theorem nw_gIx (lv : List Value) (i : Nat) (k : Value → Prop) : nw_gI lv i (fun x => k (.int x)) = (nw_tI (nw_at lv i) = true ∧ k ((nw_at lv i).getD nw_u)) := by
  unfold nw_gI
  rcases nw_at lv i with _ | v
  · simp [nw_tI]
  · cases v <;> simp [nw_tI]
theorem nw_gLx (lv : List Value) (i : Nat) (k : Value → Prop) : nw_gL lv i (fun x => k (.long x)) = (nw_tL (nw_at lv i) = true ∧ k ((nw_at lv i).getD nw_u)) := by
  unfold nw_gL
  rcases nw_at lv i with _ | v
  · simp [nw_tL]
  · cases v <;> simp [nw_tL]
theorem nw_gAx (lv : List Value) (i : Nat) (k : Value → Prop) : nw_gA lv i (fun x => k (.ref x)) = (nw_tA (nw_at lv i) = true ∧ k ((nw_at lv i).getD nw_u)) := by
  unfold nw_gA
  rcases nw_at lv i with _ | v
  · simp [nw_tA]
  · cases v <;> simp [nw_tA]
def nw_vi : Option Value → Int32
  | some (.int x) => x
  | _ => 0
theorem nw_vis (x : Int32) : nw_vi (some (.int x)) = x := rfl
theorem nw_gIy (lv : List Value) (i : Nat) (k : Int32 → Prop) : nw_gI lv i k = (nw_tI (nw_at lv i) = true ∧ k (nw_vi (nw_at lv i))) := by
  unfold nw_gI
  rcases nw_at lv i with _ | v
  · simp [nw_tI]
  · cases v <;> simp [nw_tI, nw_vi]
theorem nw_ex2 {α β : Type} (o : Option (α × β)) (d : α × β) (k : α → β → Prop) : (∃ a b, o = some (a, b) ∧ k a b) = (o.isSome = true ∧ k (o.getD d).1 (o.getD d).2) := by
  rcases o with _ | ⟨a, b⟩ <;> simp
theorem nw_ex3 {α : Type} (o : Option α) (d : α) (k : α → Prop) : (∃ a, o = some a ∧ k a) = (o.isSome = true ∧ k (o.getD d)) := by
  rcases o with _ | a <;> simp
section NWX
variable {M : nw_M} {K : Nat → List Value → List Value → nw_W → Nat → Nat → Prop} {Q : Option Value → nw_W → Prop} {n pc bc bs : Nat} {lv st : List Value} {w : nw_W}
theorem nwx_iconst (v : Int) : nw_ex M K Q (.iconst v) n pc lv st w bc bs = (n = 1 ∧ K (pc + 1) lv (.int (Int32.ofInt v) :: st) w bc bs) := rfl
theorem nwx_bipush (v : Int) : nw_ex M K Q (.bipush v) n pc lv st w bc bs = (n = 2 ∧ K (pc + 2) lv (.int (Int8.ofInt v).toInt32 :: st) w bc bs) := rfl
theorem nwx_sipush (v : Int) : nw_ex M K Q (.sipush v) n pc lv st w bc bs = (n = 3 ∧ K (pc + 3) lv (.int (Int16.ofInt v).toInt32 :: st) w bc bs) := rfl
theorem nwx_lconst (v : Fin 2) : nw_ex M K Q (.lconst v) n pc lv st w bc bs = (n = 1 ∧ K (pc + 1) lv (.long (Int64.ofNat (v : Nat)) :: st) w bc bs) := rfl
theorem nwx_ldc (i : Nat)  : nw_ex M K Q (.ldc i) n pc lv st w bc bs = (n = 2 ∧ (nw_k (nw_on M) i).isSome = true ∧ K (pc + 2) lv (.int ((nw_k (nw_on M) i).getD 0) :: st) w bc bs) := by
  show (n = 2 ∧ ∃ v, _ ∧ _) = _
  rw [nw_ex3 _ 0]
theorem nwx_ldc2_w (i : Nat)  : nw_ex M K Q (.ldc2_w i) n pc lv st w bc bs = (n = 3 ∧ (nw_kl (nw_on M) i).isSome = true ∧ K (pc + 3) lv (.long ((nw_kl (nw_on M) i).getD 0) :: st) w bc bs) := by
  show (n = 3 ∧ ∃ v, _ ∧ _) = _
  rw [nw_ex3 _ 0]
theorem nwx_iload (i : Nat)  : nw_ex M K Q (.iload i) n pc lv st w bc bs = (n = 2 ∧ nw_tI (nw_at lv i) = true ∧ K (pc + 2) lv ((nw_at lv i).getD nw_u :: st) w bc bs) := by
  show (n = 2 ∧ nw_gI lv _ _) = _
  rw [nw_gIx lv _ (fun v => K (pc + 2) lv (v :: st) w bc bs)]
theorem nwx_iload_n (i : Fin 4)  : nw_ex M K Q (.iload_n i) n pc lv st w bc bs = (n = 1 ∧ nw_tI (nw_at lv (i : Nat)) = true ∧ K (pc + 1) lv ((nw_at lv (i : Nat)).getD nw_u :: st) w bc bs) := by
  show (n = 1 ∧ nw_gI lv _ _) = _
  rw [nw_gIx lv _ (fun v => K (pc + 1) lv (v :: st) w bc bs)]
theorem nwx_lload (i : Nat)  : nw_ex M K Q (.lload i) n pc lv st w bc bs = (n = 2 ∧ nw_tL (nw_at lv i) = true ∧ K (pc + 2) lv ((nw_at lv i).getD nw_u :: st) w bc bs) := by
  show (n = 2 ∧ nw_gL lv _ _) = _
  rw [nw_gLx lv _ (fun v => K (pc + 2) lv (v :: st) w bc bs)]
theorem nwx_lload_n (i : Fin 4)  : nw_ex M K Q (.lload_n i) n pc lv st w bc bs = (n = 1 ∧ nw_tL (nw_at lv (i : Nat)) = true ∧ K (pc + 1) lv ((nw_at lv (i : Nat)).getD nw_u :: st) w bc bs) := by
  show (n = 1 ∧ nw_gL lv _ _) = _
  rw [nw_gLx lv _ (fun v => K (pc + 1) lv (v :: st) w bc bs)]
theorem nwx_aload (i : Nat)  : nw_ex M K Q (.aload i) n pc lv st w bc bs = (n = 2 ∧ nw_tA (nw_at lv i) = true ∧ K (pc + 2) lv ((nw_at lv i).getD nw_u :: st) w bc bs) := by
  show (n = 2 ∧ nw_gA lv _ _) = _
  rw [nw_gAx lv _ (fun v => K (pc + 2) lv (v :: st) w bc bs)]
theorem nwx_aload_n (i : Fin 4)  : nw_ex M K Q (.aload_n i) n pc lv st w bc bs = (n = 1 ∧ nw_tA (nw_at lv (i : Nat)) = true ∧ K (pc + 1) lv ((nw_at lv (i : Nat)).getD nw_u :: st) w bc bs) := by
  show (n = 1 ∧ nw_gA lv _ _) = _
  rw [nw_gAx lv _ (fun v => K (pc + 1) lv (v :: st) w bc bs)]
theorem nwx_istore (i : Nat) (x : Int32) (r : List Value) : nw_ex M K Q (.istore i) n pc lv (.int x :: r) w bc bs = (n = 2 ∧ nw_nl lv i = true ∧ i < nw_ml M ∧ K (pc + 2) (nw_put lv i (.int x)) r w bc bs) := rfl
theorem nwx_istore_n (i : Fin 4) (x : Int32) (r : List Value) : nw_ex M K Q (.istore_n i) n pc lv (.int x :: r) w bc bs = (n = 1 ∧ nw_nl lv (i : Nat) = true ∧ (i : Nat) < nw_ml M ∧ K (pc + 1) (nw_put lv (i : Nat) (.int x)) r w bc bs) := rfl
theorem nwx_astore (i : Nat) (x : Nat) (r : List Value) : nw_ex M K Q (.astore i) n pc lv (.ref x :: r) w bc bs = (n = 2 ∧ nw_nl lv i = true ∧ i < nw_ml M ∧ K (pc + 2) (nw_put lv i (.ref x)) r w bc bs) := rfl
theorem nwx_astore_n (i : Fin 4) (x : Nat) (r : List Value) : nw_ex M K Q (.astore_n i) n pc lv (.ref x :: r) w bc bs = (n = 1 ∧ nw_nl lv (i : Nat) = true ∧ (i : Nat) < nw_ml M ∧ K (pc + 1) (nw_put lv (i : Nat) (.ref x)) r w bc bs) := rfl
theorem nwx_lstore (i : Nat) (x : Int64) (r : List Value) : nw_ex M K Q (.lstore i) n pc lv (.long x :: r) w bc bs = (n = 2 ∧ nw_nl lv i = true ∧ i + 1 < nw_ml M ∧ K (pc + 2) (nw_put (nw_put lv i (.long x)) (i + 1) nw_u) r w bc bs) := rfl
theorem nwx_iinc (i : Nat) (v : Int)  : nw_ex M K Q (.iinc i v) n pc lv st w bc bs = (n = 3 ∧ nw_tI (nw_at lv i) = true ∧ nw_nl lv i = true ∧ i < nw_ml M ∧ K (pc + 3) (nw_put lv i (.int (nw_vi (nw_at lv i) + Int32.ofInt v))) st w bc bs) := by
  show (n = 3 ∧ nw_gI lv _ _) = _
  rw [nw_gIy]
theorem nwx_iadd  (y : Int32) (x : Int32) (r : List Value) : nw_ex M K Q .iadd n pc lv (.int y :: .int x :: r) w bc bs = (n = 1 ∧ K (pc + 1) lv (.int (x + y) :: r) w bc bs) := rfl
theorem nwx_isub  (y : Int32) (x : Int32) (r : List Value) : nw_ex M K Q .isub n pc lv (.int y :: .int x :: r) w bc bs = (n = 1 ∧ K (pc + 1) lv (.int (x - y) :: r) w bc bs) := rfl
theorem nwx_imul  (y : Int32) (x : Int32) (r : List Value) : nw_ex M K Q .imul n pc lv (.int y :: .int x :: r) w bc bs = (n = 1 ∧ K (pc + 1) lv (.int (x * y) :: r) w bc bs) := rfl
theorem nwx_iand  (y : Int32) (x : Int32) (r : List Value) : nw_ex M K Q .iand n pc lv (.int y :: .int x :: r) w bc bs = (n = 1 ∧ K (pc + 1) lv (.int (x &&& y) :: r) w bc bs) := rfl
theorem nwx_ior  (y : Int32) (x : Int32) (r : List Value) : nw_ex M K Q .ior n pc lv (.int y :: .int x :: r) w bc bs = (n = 1 ∧ K (pc + 1) lv (.int (x ||| y) :: r) w bc bs) := rfl
theorem nwx_ishl  (y : Int32) (x : Int32) (r : List Value) : nw_ex M K Q .ishl n pc lv (.int y :: .int x :: r) w bc bs = (n = 1 ∧ K (pc + 1) lv (.int (x <<< (y &&& 31)) :: r) w bc bs) := rfl
theorem nwx_ishr  (y : Int32) (x : Int32) (r : List Value) : nw_ex M K Q .ishr n pc lv (.int y :: .int x :: r) w bc bs = (n = 1 ∧ K (pc + 1) lv (.int (x >>> (y &&& 31)) :: r) w bc bs) := rfl
theorem nwx_ineg  (x : Int32) (r : List Value) : nw_ex M K Q .ineg n pc lv (.int x :: r) w bc bs = (n = 1 ∧ K (pc + 1) lv (.int (-x) :: r) w bc bs) := rfl
theorem nwx_i2l  (x : Int32) (r : List Value) : nw_ex M K Q .i2l n pc lv (.int x :: r) w bc bs = (n = 1 ∧ K (pc + 1) lv (.long x.toInt64 :: r) w bc bs) := rfl
theorem nwx_l2i  (x : Int64) (r : List Value) : nw_ex M K Q .l2i n pc lv (.long x :: r) w bc bs = (n = 1 ∧ K (pc + 1) lv (.int x.toInt32 :: r) w bc bs) := rfl
theorem nwx_lshl  (y : Int32) (x : Int64) (r : List Value) : nw_ex M K Q .lshl n pc lv (.int y :: .long x :: r) w bc bs = (n = 1 ∧ K (pc + 1) lv (.long (x <<< (y.toInt64 &&& 63)) :: r) w bc bs) := rfl
theorem nwx_lshr  (y : Int32) (x : Int64) (r : List Value) : nw_ex M K Q .lshr n pc lv (.int y :: .long x :: r) w bc bs = (n = 1 ∧ K (pc + 1) lv (.long (x >>> (y.toInt64 &&& 63)) :: r) w bc bs) := rfl
theorem nwx_lushr  (y : Int32) (x : Int64) (r : List Value) : nw_ex M K Q .lushr n pc lv (.int y :: .long x :: r) w bc bs = (n = 1 ∧ K (pc + 1) lv (.long (nw_ushr x y) :: r) w bc bs) := rfl
theorem nwx_land  (y : Int64) (x : Int64) (r : List Value) : nw_ex M K Q .land n pc lv (.long y :: .long x :: r) w bc bs = (n = 1 ∧ K (pc + 1) lv (.long (x &&& y) :: r) w bc bs) := rfl
theorem nwx_lor  (y : Int64) (x : Int64) (r : List Value) : nw_ex M K Q .lor n pc lv (.long y :: .long x :: r) w bc bs = (n = 1 ∧ K (pc + 1) lv (.long (x ||| y) :: r) w bc bs) := rfl
theorem nwx_lcmp  (y : Int64) (x : Int64) (r : List Value) : nw_ex M K Q .lcmp n pc lv (.long y :: .long x :: r) w bc bs = (n = 1 ∧ K (pc + 1) lv (.int (lg_cmp x y) :: r) w bc bs) := rfl
theorem nwx_dup (v : Value) (r : List Value) : nw_ex M K Q .dup n pc lv (v :: r) w bc bs = (n = 1 ∧ v.category = 1 ∧ K (pc + 1) lv (v :: v :: r) w bc bs) := rfl
theorem nwx_dup2 (v u : Value) (r : List Value) : nw_ex M K Q .dup2 n pc lv (v :: u :: r) w bc bs = (n = 1 ∧ v.category = 1 ∧ u.category = 1 ∧ K (pc + 1) lv (v :: u :: v :: u :: r) w bc bs) := rfl
theorem nwx_ifCond (c : Jvm.ClassFile.Cond) (off : Int) (x : Int32) (r : List Value) : nw_ex M K Q (.ifCond c off) n pc lv (.int x :: r) w bc bs = (n = 3 ∧ (nw_tg pc off).isSome = true ∧ (nw_cd c x (nI 0) → K ((nw_tg pc off).getD 0) lv r w bc bs) ∧ (¬ nw_cd c x (nI 0) → K (pc + 3) lv r w bc bs)) := by
  show (n = 3 ∧ nw_jp pc off _) = _
  rw [nw_jpx]
theorem nwx_if_icmp (c : Jvm.ClassFile.Cond) (off : Int) (y x : Int32) (r : List Value) : nw_ex M K Q (.if_icmp c off) n pc lv (.int y :: .int x :: r) w bc bs = (n = 3 ∧ (nw_tg pc off).isSome = true ∧ (nw_cd c x y → K ((nw_tg pc off).getD 0) lv r w bc bs) ∧ (¬ nw_cd c x y → K (pc + 3) lv r w bc bs)) := by
  show (n = 3 ∧ nw_jp pc off _) = _
  rw [nw_jpx]
theorem nwx_goto (off : Int)  : nw_ex M K Q (.goto off) n pc lv st w bc bs = (n = 3 ∧ (nw_tg pc off).isSome = true ∧ K ((nw_tg pc off).getD 0) lv st w bc bs) := by
  show (n = 3 ∧ nw_jp pc off _) = _
  rw [nw_jpx]
theorem nwx_tableswitch (d : Int) (lo : Int) (hi : Int) (offs : Array Int) (x : Int32) (r : List Value) : nw_ex M K Q (.tableswitch d lo hi offs) n pc lv (.int x :: r) w bc bs = (hi = lo + offs.size - 1 ∧ (x.toInt < lo ∨ hi < x.toInt → nw_jp pc d fun t => K t lv r w bc bs) ∧ nw_tsw offs.toList lo x.toInt fun off => nw_jp pc off fun t => K t lv r w bc bs) := rfl
theorem nwx_lookupswitch (d : Int) (ps : Array (Int × Int)) (x : Int32) (r : List Value) : nw_ex M K Q (.lookupswitch d ps) n pc lv (.int x :: r) w bc bs = ((ps.toList.zip (ps.toList.drop 1)).all (fun (a, next) => a.1 < next.1) = true ∧ nw_jp pc (Op.lookupswitch.offset ps.toList d x.toInt) fun t => K t lv r w bc bs) := rfl
theorem nwx_getfield (i : Nat) (a : Nat) (r : List Value) : nw_ex M K Q (.getfield i) n pc lv (.ref a :: r) w bc bs = (n = 3 ∧ (nw_fl (nw_on M) i).isSome = true ∧ nw_ob w a ((nw_fl (nw_on M) i).getD (0, 0)).1 ∧ K (pc + 3) lv (nw_fv w a ((nw_fl (nw_on M) i).getD (0, 0)).1 ((nw_fl (nw_on M) i).getD (0, 0)).2 :: r) w bc bs) := by
  show (n = 3 ∧ ∃ ci k, _ ∧ _) = _
  rw [nw_ex2 _ (0, 0) (fun ci k => nw_ob w a ci ∧ K (pc + 3) lv (nw_fv w a ci k :: r) w bc bs)]
theorem nwx_putI (i : Nat) (x : Int32) (a : Nat) (r : List Value) : nw_ex M K Q (.putfield i) n pc lv (.int x :: .ref a :: r) w bc bs = (n = 3 ∧ (nw_fl (nw_on M) i).isSome = true ∧ nw_fok M ((nw_fl (nw_on M) i).getD (0, 0)).1 ((nw_fl (nw_on M) i).getD (0, 0)).2 = true ∧ nw_wok (nw_ty ((nw_fl (nw_on M) i).getD (0, 0)).1 ((nw_fl (nw_on M) i).getD (0, 0)).2) x ∧ nw_ob w a ((nw_fl (nw_on M) i).getD (0, 0)).1 ∧ K (pc + 3) lv r (nw_setI w a (upd (nw_I w a) ((nw_fl (nw_on M) i).getD (0, 0)).2 x)) bc bs) := by
  show (n = 3 ∧ ∃ ci k, _ ∧ _) = _
  rw [nw_ex2 _ (0, 0) (fun ci k => nw_fok M ci k = true ∧ nw_wok (nw_ty ci k) x ∧ nw_ob w a ci ∧ K (pc + 3) lv r (nw_setI w a (upd (nw_I w a) k x)) bc bs)]
theorem nwx_putR (i q a : Nat) (r : List Value) : nw_ex M K Q (.putfield i) n pc lv (.ref q :: .ref a :: r) w bc bs = (n = 3 ∧ (nw_fl (nw_on M) i).isSome = true ∧ nw_fok M ((nw_fl (nw_on M) i).getD (0, 0)).1 ((nw_fl (nw_on M) i).getD (0, 0)).2 = true ∧ nw_isR (nw_ty ((nw_fl (nw_on M) i).getD (0, 0)).1 ((nw_fl (nw_on M) i).getD (0, 0)).2) = true ∧ nw_ob w a ((nw_fl (nw_on M) i).getD (0, 0)).1 ∧ K (pc + 3) lv r (nw_setR w a (va_up (nw_rf w a) ((nw_fl (nw_on M) i).getD (0, 0)).2 (some q))) bc bs) := by
  show (n = 3 ∧ ∃ ci k, _ ∧ _) = _
  rw [nw_ex2 _ (0, 0) (fun ci k => nw_fok M ci k = true ∧ nw_isR (nw_ty ci k) = true ∧ nw_ob w a ci ∧ K (pc + 3) lv r (nw_setR w a (va_up (nw_rf w a) k (some q))) bc bs)]
theorem nwx_iaload  (i : Int32) (a : Nat) (r : List Value) : nw_ex M K Q .iaload n pc lv (.int i :: .ref a :: r) w bc bs = (n = 1 ∧ (a = 0 ∨ nw_ob w a 16) ∧ vp_in i (nw_ln w a) ∧ K (pc + 1) lv (.int (nw_I w a i.toNatClampNeg) :: r) w bc bs) := rfl
theorem nwx_baload  (i : Int32) (a : Nat) (r : List Value) : nw_ex M K Q .baload n pc lv (.int i :: .ref a :: r) w bc bs = (n = 1 ∧ nw_ob w a 18 ∧ vp_in i (nw_ln w a) ∧ K (pc + 1) lv (.int (nw_I w a i.toNatClampNeg) :: r) w bc bs) := rfl
theorem nwx_laload  (i : Int32) (a : Nat) (r : List Value) : nw_ex M K Q .laload n pc lv (.int i :: .ref a :: r) w bc bs = (n = 1 ∧ nw_ob w a 17 ∧ vp_in i (nw_ln w a) ∧ K (pc + 1) lv (.long (nw_L w a i.toNatClampNeg) :: r) w bc bs) := rfl
theorem nwx_aaload  (i : Int32) (a : Nat) (r : List Value) : nw_ex M K Q .aaload n pc lv (.int i :: .ref a :: r) w bc bs = (n = 1 ∧ nw_obr w a ∧ vp_in i (nw_ln w a) ∧ K (pc + 1) lv (va_rf (nw_rf w a i.toNatClampNeg) :: r) w bc bs) := rfl
theorem nwx_arraylength  (a : Nat) (r : List Value) : nw_ex M K Q .arraylength n pc lv (.ref a :: r) w bc bs = (n = 1 ∧ nw_oba w a ∧ K (pc + 1) lv (.int (nI (nw_ln w a)) :: r) w bc bs) := rfl
theorem nwx_iastore  (x : Int32) (i : Int32) (a : Nat) (r : List Value) : nw_ex M K Q .iastore n pc lv (.int x :: .int i :: .ref a :: r) w bc bs = (n = 1 ∧ nw_ob w a 16 ∧ vp_in i (nw_ln w a) ∧ K (pc + 1) lv r (nw_setI w a (upd (nw_I w a) i.toNatClampNeg x)) bc bs) := rfl
theorem nwx_bastore  (x : Int32) (i : Int32) (a : Nat) (r : List Value) : nw_ex M K Q .bastore n pc lv (.int x :: .int i :: .ref a :: r) w bc bs = (n = 1 ∧ nw_ob w a 18 ∧ vp_in i (nw_ln w a) ∧ (x = nI 0 ∨ x = nI 1) ∧ K (pc + 1) lv r (nw_setI w a (upd (nw_I w a) i.toNatClampNeg x)) bc bs) := rfl
theorem nwx_lastore  (x : Int64) (i : Int32) (a : Nat) (r : List Value) : nw_ex M K Q .lastore n pc lv (.long x :: .int i :: .ref a :: r) w bc bs = (n = 1 ∧ nw_ob w a 17 ∧ vp_in i (nw_ln w a) ∧ K (pc + 1) lv r (nw_setL w a (vp_updL (nw_L w a) i.toNatClampNeg x)) bc bs) := rfl
theorem nwx_aastore  (q : Nat) (i : Int32) (a : Nat) (r : List Value) : nw_ex M K Q .aastore n pc lv (.ref q :: .int i :: .ref a :: r) w bc bs = (n = 1 ∧ ∃ kd ci, ((kd = 20 ∧ ci = 4) ∨ (kd = 21 ∧ ci = 0) ∨ (kd = 22 ∧ ci = 1)) ∧ nw_ob w a kd ∧ nw_ob w q ci ∧ vp_in i (nw_ln w a) ∧ K (pc + 1) lv r (nw_setR w a (va_up (nw_rf w a) i.toNatClampNeg (some q))) bc bs) := rfl
theorem nwx_new (i : Nat)  : nw_ex M K Q (.new i) n pc lv st w bc bs = (n = 3 ∧ (nw_cn (nw_on M) i).isSome = true ∧ 1 ≤ bc ∧ nw_N ((nw_cn (nw_on M) i).getD 0) ≤ bs ∧ K (pc + 3) lv (.ref (nw_sz w + 1) :: st) (nw_new w ((nw_cn (nw_on M) i).getD 0) 0) (bc - 1) (bs - nw_N ((nw_cn (nw_on M) i).getD 0))) := by
  show (n = 3 ∧ ∃ v, _ ∧ _) = _
  rw [nw_ex3 _ 0]
theorem nwx_newarray (t : ArrayType) (x : Int32) (r : List Value) : nw_ex M K Q (.newarray t) n pc lv (.int x :: r) w bc bs = (n = 2 ∧ nw_ak t ≠ 0 ∧ ¬ x < 0 ∧ x.toNatClampNeg ≤ 65536 ∧ 1 ≤ bc ∧ x.toNatClampNeg ≤ bs ∧ K (pc + 2) lv (.ref (nw_sz w + 1) :: r) (nw_new w (nw_ak t) x.toNatClampNeg) (bc - 1) (bs - x.toNatClampNeg)) := rfl
theorem nwx_anewarray (i : Nat) (x : Int32) (r : List Value) : nw_ex M K Q (.anewarray i) n pc lv (.int x :: r) w bc bs = (n = 3 ∧ (nw_an (nw_on M) i).isSome = true ∧ ¬ x < 0 ∧ x.toNatClampNeg ≤ 65536 ∧ 1 ≤ bc ∧ x.toNatClampNeg ≤ bs ∧ K (pc + 3) lv (.ref (nw_sz w + 1) :: r) (nw_new w ((nw_an (nw_on M) i).getD 0) x.toNatClampNeg) (bc - 1) (bs - x.toNatClampNeg)) := by
  show (n = 3 ∧ ∃ v, _ ∧ _) = _
  rw [nw_ex3 _ 0]
theorem nwx_multianewarray (i : Nat) (d : Nat) (y : Int32) (x : Int32) (r : List Value) : nw_ex M K Q (.multianewarray i d) n pc lv (.int y :: .int x :: r) w bc bs = (n = 4 ∧ i = 39 ∧ d = 2 ∧ nw_on M = 4 ∧ ¬ x < 0 ∧ ¬ y < 0 ∧ x.toNatClampNeg ≤ 64 ∧ y.toNatClampNeg ≤ 64 ∧ 1 + x.toNatClampNeg ≤ bc ∧ x.toNatClampNeg + x.toNatClampNeg * y.toNatClampNeg ≤ bs ∧ K (pc + 4) lv (.ref (nw_sz w + 1) :: r) (nw_grid w x.toNatClampNeg y.toNatClampNeg) (bc - (1 + x.toNatClampNeg)) (bs - (x.toNatClampNeg + x.toNatClampNeg * y.toNatClampNeg))) := rfl
theorem nwx_ireturn  (x : Int32) (r : List Value) : nw_ex M K Q .ireturn n pc lv (.int x :: r) w bc bs = (n = 1 ∧ r = [] ∧ nw_rok M x ∧ Q (some (.int x)) w) := rfl
theorem nwx_return_  : nw_ex M K Q .return_ n pc lv st w bc bs = (n = 1 ∧ st = [] ∧ nw_rt M = none ∧ Q none w) := rfl
theorem nwx_invokestatic (i : Nat) : nw_ex M K Q (.invokestatic i) n pc lv st w bc bs = (n = 3 ∧ ((nw_mx (nw_on M) i = some true ∧ nw_pII st fun x y r => 1 ≤ nw_fr M ∧ r.length ≤ 4 ∧ 21 ≤ nw_lo M ∧ K (pc + 3) lv (.int (if x < y then y else x) :: r) w bc bs) ∨ (nw_mx (nw_on M) i = some false ∧ nw_pII st fun x y r => 1 ≤ nw_fr M ∧ r.length ≤ 4 ∧ 21 ≤ nw_lo M ∧ K (pc + 3) lv (.int (if y < x then y else x) :: r) w bc bs) ∨ (nw_mx (nw_on M) i = none ∧ ∃ M', nw_ca (nw_on M) i = some (M', 1) ∧ nw_okc M M' = true ∧ nw_popn (nw_np M') [] st fun As r => r.length ≤ 4 ∧ (nw_flat As).length ≤ nw_ml M' ∧ nw_do M' As w bc bs fun res w' bc' bs' => V M (pc + 3) lv (res.toList ++ r) w' bc' bs' Q))) := rfl
theorem nwx_invokevirtual (i : Nat) : nw_ex M K Q (.invokevirtual i) n pc lv st w bc bs = (n = 3 ∧ ∃ M', nw_ca (nw_on M) i = some (M', 0) ∧ nw_okc M M' = true ∧ nw_popn (nw_np M') [] st fun As r => nw_pA r fun a r => nw_ob w a (nw_on M') ∧ r.length ≤ 4 ∧ (nw_flat (.ref a :: As)).length ≤ nw_ml M' ∧ nw_do M' (.ref a :: As) w bc bs fun res w' bc' bs' => V M (pc + 3) lv (res.toList ++ r) w' bc' bs' Q) := rfl
theorem nwx_invokespecial (i : Nat) : nw_ex M K Q (.invokespecial i) n pc lv st w bc bs = (n = 3 ∧ ((nw_oo (nw_on M) i = true ∧ nw_pA st fun _ r => 1 ≤ nw_fr M ∧ r.length ≤ 4 ∧ 20 ≤ nw_lo M ∧ K (pc + 3) lv r w bc bs) ∨ (nw_oo (nw_on M) i = false ∧ ∃ M', nw_ca (nw_on M) i = some (M', 2) ∧ nw_okc M M' = true ∧ nw_popn (nw_np M') [] st fun As r => nw_pA r fun a r => r.length ≤ 4 ∧ (nw_flat (.ref a :: As)).length ≤ nw_ml M' ∧ nw_do M' (.ref a :: As) w bc bs fun res w' bc' bs' => V M (pc + 3) lv (res.toList ++ r) w' bc' bs' Q))) := rfl
theorem nwx_0 (stops : List Nat) (pc : Nat) : nw_sx M Q stops 0 pc lv st w bc bs = V M pc lv st w bc bs Q := rfl
theorem nwx_S (stops : List Nat) (k pc : Nat) : nw_sx M Q stops (k + 1) pc lv st w bc bs = if pc ∈ stops then V M pc lv st w bc bs Q else nw_s1 M Q stops k pc lv st w bc bs := rfl
theorem nwx_1 (stops : List Nat) (k pc m : Nat) (i : Instr) (h : decode (nw_cc M) pc = .ok (i, m)) : nw_s1 M Q stops k pc lv st w bc bs = nw_ex M (nw_sx M Q stops k) Q i m pc lv st w bc bs := by
  unfold nw_s1
  rw [h]
end NWX
