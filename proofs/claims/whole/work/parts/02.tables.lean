/-! Tables, by our own text program out of the Statement: classes 0..7 have objects, 8..10 have none. -/
def nw_tb : List Cond := lw_tbl.filter goodWord
theorem nw_in {i : Nat} {w : Cond} (h : lw_tbl[i]? = some w) (hg : goodWord w = true) : w ∈ nw_tb := List.mem_filter.mpr ⟨List.mem_of_getElem? h, hg⟩
def nw_R : Nat → String := fun c => match c with
  | 0 => "NewsFlood$Article"
  | 1 => "NewsFlood$Backlog"
  | 2 => "NewsFlood$Entries"
  | 3 => "NewsFlood$Intake"
  | 4 => "NewsFlood$Server"
  | 5 => "NewsFlood$Spool"
  | 6 => "NewsFlood"
  | 7 => "NewsFloodModel"
  | 8 => "NewsFlood$Text"
  | 9 => "java/lang/Math"
  | _ => "NewsFloodLaw"
def nw_T0 : u_T := fun k => match k with
  | 0 => ("NewsFlood$Article", "written", "Z", false)
  | 1 => ("NewsFlood$Article", "sentOff", "Z", false)
  | 2 => ("NewsFlood$Article", "groups", "I", false)
  | 3 => ("NewsFlood$Article", "date", "I", false)
  | 4 => ("NewsFlood$Article", "size", "I", false)
  | _ => ("NewsFlood$Article", "cancels", "I", false)
def nw_t0 : Nat → FieldType := fun k => match k with
  | 0 => .boolean
  | 1 => .boolean
  | 2 => .int
  | 3 => .int
  | 4 => .int
  | _ => .int
def nw_T1 : u_T := fun k => match k with
  | 0 => ("NewsFlood$Backlog", "ids", "[I", true)
  | _ => ("NewsFlood$Backlog", "size", "I", false)
def nw_t1 : Nat → FieldType := fun k => match k with
  | 0 => .array .int
  | _ => .int
def nw_T2 : u_T := fun k => match k with
  | 0 => ("NewsFlood$Entries", "kind", "[I", true)
  | 1 => ("NewsFlood$Entries", "until", "[I", true)
  | _ => ("NewsFlood$Entries", "count", "I", false)
def nw_t2 : Nat → FieldType := fun k => match k with
  | 0 => .array .int
  | 1 => .array .int
  | _ => .int
def nw_T3 : u_T := fun k => match k with
  | 0 => ("NewsFlood$Intake", "id", "I", false)
  | 1 => ("NewsFlood$Intake", "missing", "I", false)
  | 2 => ("NewsFlood$Intake", "path", "I", false)
  | _ => ("NewsFlood$Intake", "sender", "I", false)
def nw_t3 : Nat → FieldType := fun k => match k with
  | 0 => .int
  | 1 => .int
  | 2 => .int
  | _ => .int
def nw_T4 : u_T := fun k => match k with
  | 0 => ("NewsFlood$Server", "spool", "LNewsFlood$Spool;", true)
  | 1 => ("NewsFlood$Server", "entries", "LNewsFlood$Entries;", true)
  | 2 => ("NewsFlood$Server", "intake", "LNewsFlood$Intake;", true)
  | 3 => ("NewsFlood$Server", "keep", "[I", true)
  | 4 => ("NewsFlood$Server", "high", "[I", true)
  | 5 => ("NewsFlood$Server", "numbers", "[[I", true)
  | 6 => ("NewsFlood$Server", "arrival", "[I", true)
  | 7 => ("NewsFlood$Server", "path", "[I", true)
  | 8 => ("NewsFlood$Server", "patterns", "[J", true)
  | 9 => ("NewsFlood$Server", "backlogs", "[LNewsFlood$Backlog;", true)
  | 10 => ("NewsFlood$Server", "selected", "I", false)
  | _ => ("NewsFlood$Server", "current", "I", false)
def nw_t4 : Nat → FieldType := fun k => match k with
  | 0 => .object "NewsFlood$Spool"
  | 1 => .object "NewsFlood$Entries"
  | 2 => .object "NewsFlood$Intake"
  | 3 => .array .int
  | 4 => .array .int
  | 5 => .array (.array .int)
  | 6 => .array .int
  | 7 => .array .int
  | 8 => .array .long
  | 9 => .array (.object "NewsFlood$Backlog")
  | 10 => .int
  | _ => .int
def nw_T5 : u_T := fun k => match k with
  | _ => ("NewsFlood$Spool", "owner", "[I", true)
def nw_t5 : Nat → FieldType := fun k => match k with
  | _ => .array .int
def nw_T6 : u_T := fun k => match k with
  | 0 => ("NewsFlood", "cutoff", "I", true)
  | 1 => ("NewsFlood", "servers", "[LNewsFlood$Server;", true)
  | 2 => ("NewsFlood", "articles", "[LNewsFlood$Article;", true)
  | 3 => ("NewsFlood", "groupNames", "[J", true)
  | 4 => ("NewsFlood", "groupCount", "I", false)
  | _ => ("NewsFlood", "clock", "I", false)
def nw_t6 : Nat → FieldType := fun k => match k with
  | 0 => .int
  | 1 => .array (.object "NewsFlood$Server")
  | 2 => .array (.object "NewsFlood$Article")
  | 3 => .array .long
  | 4 => .int
  | _ => .int
def nw_T7 : u_T := fun k => match k with
  | 0 => ("NewsFloodModel", "n", "I", true)
  | 1 => ("NewsFloodModel", "cutoff", "I", true)
  | 2 => ("NewsFloodModel", "clock", "I", false)
  | 3 => ("NewsFloodModel", "groups", "I", false)
  | 4 => ("NewsFloodModel", "names", "[J", true)
  | 5 => ("NewsFloodModel", "inGroups", "[I", true)
  | 6 => ("NewsFloodModel", "date", "[I", true)
  | 7 => ("NewsFloodModel", "size", "[I", true)
  | 8 => ("NewsFloodModel", "cancels", "[I", true)
  | 9 => ("NewsFloodModel", "sent", "[Z", true)
  | 10 => ("NewsFloodModel", "keeps", "[I", true)
  | 11 => ("NewsFloodModel", "high", "[I", true)
  | 12 => ("NewsFloodModel", "entry", "[I", true)
  | 13 => ("NewsFloodModel", "until", "[I", true)
  | 14 => ("NewsFloodModel", "arrival", "[I", true)
  | 15 => ("NewsFloodModel", "block", "[I", true)
  | 16 => ("NewsFloodModel", "path", "[I", true)
  | 17 => ("NewsFloodModel", "numbers", "[I", true)
  | 18 => ("NewsFloodModel", "patterns", "[J", true)
  | 19 => ("NewsFloodModel", "waiting", "[I", true)
  | 20 => ("NewsFloodModel", "waits", "[I", true)
  | 21 => ("NewsFloodModel", "comes", "[I", true)
  | 22 => ("NewsFloodModel", "left", "[I", true)
  | 23 => ("NewsFloodModel", "to", "[I", true)
  | 24 => ("NewsFloodModel", "comesBy", "[I", true)
  | 25 => ("NewsFloodModel", "from", "[I", true)
  | 26 => ("NewsFloodModel", "chosen", "[I", true)
  | _ => ("NewsFloodModel", "current", "[I", true)
def nw_t7 : Nat → FieldType := fun k => match k with
  | 0 => .int
  | 1 => .int
  | 2 => .int
  | 3 => .int
  | 4 => .array .long
  | 5 => .array .int
  | 6 => .array .int
  | 7 => .array .int
  | 8 => .array .int
  | 9 => .array .boolean
  | 10 => .array .int
  | 11 => .array .int
  | 12 => .array .int
  | 13 => .array .int
  | 14 => .array .int
  | 15 => .array .int
  | 16 => .array .int
  | 17 => .array .int
  | 18 => .array .long
  | 19 => .array .int
  | 20 => .array .int
  | 21 => .array .int
  | 22 => .array .int
  | 23 => .array .int
  | 24 => .array .int
  | 25 => .array .int
  | 26 => .array .int
  | _ => .array .int
def nw_T : Nat → u_T := fun c => match c with
  | 0 => nw_T0
  | 1 => nw_T1
  | 2 => nw_T2
  | 3 => nw_T3
  | 4 => nw_T4
  | 5 => nw_T5
  | 6 => nw_T6
  | _ => nw_T7
def nw_ty : Nat → Nat → FieldType := fun c => match c with
  | 0 => nw_t0
  | 1 => nw_t1
  | 2 => nw_t2
  | 3 => nw_t3
  | 4 => nw_t4
  | 5 => nw_t5
  | 6 => nw_t6
  | _ => nw_t7
def nw_N : Nat → Nat := fun c => match c with
  | 0 => 6
  | 1 => 2
  | 2 => 3
  | 3 => 4
  | 4 => 12
  | 5 => 1
  | 6 => 6
  | _ => 28
abbrev nw_cl : List vw_C := [(nw_R 0, nw_T 0, nw_N 0), (nw_R 1, nw_T 1, nw_N 1), (nw_R 2, nw_T 2, nw_N 2), (nw_R 3, nw_T 3, nw_N 3), (nw_R 4, nw_T 4, nw_N 4), (nw_R 5, nw_T 5, nw_N 5), (nw_R 6, nw_T 6, nw_N 6), (nw_R 7, nw_T 7, nw_N 7)]
def nw_clOK (c : Nat) : Prop := nw_cl[c]? = some (nw_R c, nw_T c, nw_N c) ∧ (∀ w ∈ u_ws (nw_R c) (nw_T c) (nw_N c), w ∈ nw_tb) ∧ (∀ k, k < nw_N c → parseFieldDescriptor (nw_T c k).2.2.1 = some (nw_ty c k)) ∧ (∀ a, a < nw_N c → ∀ b, b < nw_N c → a ≠ b → (nw_T c a).2.1 ≠ (nw_T c b).2.1) ∧ Cond.instantiable (nw_R c) (nw_N c) ∈ nw_tb ∧ Cond.initialized (nw_R c) ∈ nw_tb
set_option maxRecDepth 20000 in
theorem nw_cls0 : nw_clOK 0 := ⟨rfl, (show ∀ w ∈ u_ws (nw_R 0) (nw_T 0) (nw_N 0), w ∈ nw_tb from List.forall_mem_cons.mpr ⟨nw_in (i := 200) rfl rfl, List.forall_mem_cons.mpr ⟨nw_in (i := 202) rfl rfl, List.forall_mem_cons.mpr ⟨nw_in (i := 204) rfl rfl, List.forall_mem_cons.mpr ⟨nw_in (i := 206) rfl rfl, List.forall_mem_cons.mpr ⟨nw_in (i := 208) rfl rfl, List.forall_mem_cons.mpr ⟨nw_in (i := 210) rfl rfl, fun _ h => absurd h List.not_mem_nil⟩⟩⟩⟩⟩⟩), by decide +kernel, by decide +kernel, nw_in (i := 184) rfl rfl, nw_in (i := 37) rfl rfl⟩
set_option maxRecDepth 20000 in
theorem nw_cls1 : nw_clOK 1 := ⟨rfl, (show ∀ w ∈ u_ws (nw_R 1) (nw_T 1) (nw_N 1), w ∈ nw_tb from List.forall_mem_cons.mpr ⟨nw_in (i := 127) rfl rfl, List.forall_mem_cons.mpr ⟨nw_in (i := 129) rfl rfl, fun _ h => absurd h List.not_mem_nil⟩⟩), by decide +kernel, by decide +kernel, nw_in (i := 120) rfl rfl, nw_in (i := 36) rfl rfl⟩
set_option maxRecDepth 20000 in
theorem nw_cls2 : nw_clOK 2 := ⟨rfl, (show ∀ w ∈ u_ws (nw_R 2) (nw_T 2) (nw_N 2), w ∈ nw_tb from List.forall_mem_cons.mpr ⟨nw_in (i := 85) rfl rfl, List.forall_mem_cons.mpr ⟨nw_in (i := 87) rfl rfl, List.forall_mem_cons.mpr ⟨nw_in (i := 89) rfl rfl, fun _ h => absurd h List.not_mem_nil⟩⟩⟩), by decide +kernel, by decide +kernel, nw_in (i := 73) rfl rfl, nw_in (i := 34) rfl rfl⟩
set_option maxRecDepth 20000 in
theorem nw_cls3 : nw_clOK 3 := ⟨rfl, (show ∀ w ∈ u_ws (nw_R 3) (nw_T 3) (nw_N 3), w ∈ nw_tb from List.forall_mem_cons.mpr ⟨nw_in (i := 107) rfl rfl, List.forall_mem_cons.mpr ⟨nw_in (i := 109) rfl rfl, List.forall_mem_cons.mpr ⟨nw_in (i := 111) rfl rfl, List.forall_mem_cons.mpr ⟨nw_in (i := 113) rfl rfl, fun _ h => absurd h List.not_mem_nil⟩⟩⟩⟩), by decide +kernel, by decide +kernel, nw_in (i := 93) rfl rfl, nw_in (i := 35) rfl rfl⟩
set_option maxRecDepth 20000 in
theorem nw_cls4 : nw_clOK 4 := ⟨rfl, (show ∀ w ∈ u_ws (nw_R 4) (nw_T 4) (nw_N 4), w ∈ nw_tb from List.forall_mem_cons.mpr ⟨nw_in (i := 157) rfl rfl, List.forall_mem_cons.mpr ⟨nw_in (i := 159) rfl rfl, List.forall_mem_cons.mpr ⟨nw_in (i := 161) rfl rfl, List.forall_mem_cons.mpr ⟨nw_in (i := 163) rfl rfl, List.forall_mem_cons.mpr ⟨nw_in (i := 165) rfl rfl, List.forall_mem_cons.mpr ⟨nw_in (i := 167) rfl rfl, List.forall_mem_cons.mpr ⟨nw_in (i := 169) rfl rfl, List.forall_mem_cons.mpr ⟨nw_in (i := 171) rfl rfl, List.forall_mem_cons.mpr ⟨nw_in (i := 173) rfl rfl, List.forall_mem_cons.mpr ⟨nw_in (i := 175) rfl rfl, List.forall_mem_cons.mpr ⟨nw_in (i := 177) rfl rfl, List.forall_mem_cons.mpr ⟨nw_in (i := 179) rfl rfl, fun _ h => absurd h List.not_mem_nil⟩⟩⟩⟩⟩⟩⟩⟩⟩⟩⟩⟩), by decide +kernel, by decide +kernel, nw_in (i := 56) rfl rfl, nw_in (i := 32) rfl rfl⟩
set_option maxRecDepth 20000 in
theorem nw_cls5 : nw_clOK 5 := ⟨rfl, (show ∀ w ∈ u_ws (nw_R 5) (nw_T 5) (nw_N 5), w ∈ nw_tb from List.forall_mem_cons.mpr ⟨nw_in (i := 68) rfl rfl, fun _ h => absurd h List.not_mem_nil⟩), by decide +kernel, by decide +kernel, nw_in (i := 62) rfl rfl, nw_in (i := 33) rfl rfl⟩
set_option maxRecDepth 20000 in
theorem nw_cls6 : nw_clOK 6 := ⟨rfl, (show ∀ w ∈ u_ws (nw_R 6) (nw_T 6) (nw_N 6), w ∈ nw_tb from List.forall_mem_cons.mpr ⟨nw_in (i := 219) rfl rfl, List.forall_mem_cons.mpr ⟨nw_in (i := 221) rfl rfl, List.forall_mem_cons.mpr ⟨nw_in (i := 223) rfl rfl, List.forall_mem_cons.mpr ⟨nw_in (i := 225) rfl rfl, List.forall_mem_cons.mpr ⟨nw_in (i := 227) rfl rfl, List.forall_mem_cons.mpr ⟨nw_in (i := 229) rfl rfl, fun _ h => absurd h List.not_mem_nil⟩⟩⟩⟩⟩⟩), by decide +kernel, by decide +kernel, nw_in (i := 41) rfl rfl, nw_in (i := 30) rfl rfl⟩
set_option maxRecDepth 20000 in
theorem nw_cls7 : nw_clOK 7 := ⟨rfl, (show ∀ w ∈ u_ws (nw_R 7) (nw_T 7) (nw_N 7), w ∈ nw_tb from List.forall_mem_cons.mpr ⟨nw_in (i := 569) rfl rfl, List.forall_mem_cons.mpr ⟨nw_in (i := 571) rfl rfl, List.forall_mem_cons.mpr ⟨nw_in (i := 573) rfl rfl, List.forall_mem_cons.mpr ⟨nw_in (i := 575) rfl rfl, List.forall_mem_cons.mpr ⟨nw_in (i := 577) rfl rfl, List.forall_mem_cons.mpr ⟨nw_in (i := 579) rfl rfl, List.forall_mem_cons.mpr ⟨nw_in (i := 581) rfl rfl, List.forall_mem_cons.mpr ⟨nw_in (i := 583) rfl rfl, List.forall_mem_cons.mpr ⟨nw_in (i := 585) rfl rfl, List.forall_mem_cons.mpr ⟨nw_in (i := 587) rfl rfl, List.forall_mem_cons.mpr ⟨nw_in (i := 589) rfl rfl, List.forall_mem_cons.mpr ⟨nw_in (i := 591) rfl rfl, List.forall_mem_cons.mpr ⟨nw_in (i := 593) rfl rfl, List.forall_mem_cons.mpr ⟨nw_in (i := 595) rfl rfl, List.forall_mem_cons.mpr ⟨nw_in (i := 597) rfl rfl, List.forall_mem_cons.mpr ⟨nw_in (i := 599) rfl rfl, List.forall_mem_cons.mpr ⟨nw_in (i := 601) rfl rfl, List.forall_mem_cons.mpr ⟨nw_in (i := 603) rfl rfl, List.forall_mem_cons.mpr ⟨nw_in (i := 605) rfl rfl, List.forall_mem_cons.mpr ⟨nw_in (i := 607) rfl rfl, List.forall_mem_cons.mpr ⟨nw_in (i := 609) rfl rfl, List.forall_mem_cons.mpr ⟨nw_in (i := 611) rfl rfl, List.forall_mem_cons.mpr ⟨nw_in (i := 613) rfl rfl, List.forall_mem_cons.mpr ⟨nw_in (i := 615) rfl rfl, List.forall_mem_cons.mpr ⟨nw_in (i := 617) rfl rfl, List.forall_mem_cons.mpr ⟨nw_in (i := 619) rfl rfl, List.forall_mem_cons.mpr ⟨nw_in (i := 621) rfl rfl, List.forall_mem_cons.mpr ⟨nw_in (i := 623) rfl rfl, fun _ h => absurd h List.not_mem_nil⟩⟩⟩⟩⟩⟩⟩⟩⟩⟩⟩⟩⟩⟩⟩⟩⟩⟩⟩⟩⟩⟩⟩⟩⟩⟩⟩⟩), by decide +kernel, by decide +kernel, nw_in (i := 536) rfl rfl, nw_in (i := 38) rfl rfl⟩
set_option maxRecDepth 20000 in
theorem nw_cls {c : Nat} (h : c < 8) : nw_clOK c := by
  rcases (show c = 0 ∨ c = 1 ∨ c = 2 ∨ c = 3 ∨ c = 4 ∨ c = 5 ∨ c = 6 ∨ c = 7 by omega) with rfl | rfl | rfl | rfl | rfl | rfl | rfl | rfl
  · exact nw_cls0
  · exact nw_cls1
  · exact nw_cls2
  · exact nw_cls3
  · exact nw_cls4
  · exact nw_cls5
  · exact nw_cls6
  · exact nw_cls7
def nw_okty (t : FieldType) : Bool := match t with
  | .int => true
  | .boolean => true
  | .object _ => true
  | .array _ => true
  | _ => false
set_option maxRecDepth 20000 in
theorem nw_okty_all : ∀ c, c < 8 → ∀ k, k < nw_N c → nw_okty (nw_ty c k) = true := by decide +kernel
set_option maxRecDepth 20000 in
theorem nw_T_own_all : ∀ c, c < 8 → ∀ k, k < nw_N c → (nw_T c k).1 = nw_R c := by decide +kernel
set_option maxRecDepth 20000 in
theorem nw_T_own {c k : Nat} (h : c < 8) (hk : k < nw_N c) : (nw_T c k).1 = nw_R c := nw_T_own_all c h k hk
/-- a method: name, code, locals, answer, class, parameters, frames and locals' room below it -/
abbrev nw_M : Type := MethodName × ByteArray × Nat × Option FieldType × Nat × Nat × Nat × Nat
def nw_y (M : nw_M) : MethodName := M.1
def nw_cc (M : nw_M) : ByteArray := M.2.1
def nw_ml (M : nw_M) : Nat := M.2.2.1
def nw_rt (M : nw_M) : Option FieldType := M.2.2.2.1
def nw_on (M : nw_M) : Nat := M.2.2.2.2.1
def nw_np (M : nw_M) : Nat := M.2.2.2.2.2.1
def nw_fr (M : nw_M) : Nat := M.2.2.2.2.2.2.1
def nw_lo (M : nw_M) : Nat := M.2.2.2.2.2.2.2
def mNf_init : nw_M := (⟨"NewsFlood", "<init>", "(II)V"⟩, prog_1_method_1_code, 5, none, 6, 2, 3, 62)
def mSe_init : nw_M := (⟨"NewsFlood$Server", "<init>", "(I)V"⟩, prog_6_method_1_code, 3, none, 4, 1, 2, 40)
def mSp_init : nw_M := (⟨"NewsFlood$Spool", "<init>", "()V"⟩, prog_7_method_1_code, 1, none, 5, 0, 1, 20)
def mEn_init : nw_M := (⟨"NewsFlood$Entries", "<init>", "()V"⟩, prog_4_method_1_code, 1, none, 2, 0, 1, 20)
def mIn_init : nw_M := (⟨"NewsFlood$Intake", "<init>", "()V"⟩, prog_5_method_1_code, 1, none, 3, 0, 1, 20)
def mBa_init : nw_M := (⟨"NewsFlood$Backlog", "<init>", "()V"⟩, prog_3_method_1_code, 1, none, 1, 0, 1, 20)
def mAr_init : nw_M := (⟨"NewsFlood$Article", "<init>", "()V"⟩, prog_2_method_1_code, 1, none, 0, 0, 1, 20)
def mNf_carry : nw_M := (⟨"NewsFlood", "carry", "(IJI)I"⟩, prog_1_method_2_code, 6, some .int, 6, 3, 4, 90)
def mNf_isServer : nw_M := (⟨"NewsFlood", "isServer", "(I)Z"⟩, prog_1_method_21_code, 2, some .boolean, 6, 1, 0, 0)
def mTe_isName : nw_M := (⟨"NewsFlood$Text", "isName", "(J)Z"⟩, prog_8_method_2_code, 2, some .boolean, 8, 1, 3, 69)
def mTe_isText : nw_M := (⟨"NewsFlood$Text", "isText", "(JZ)Z"⟩, prog_8_method_5_code, 6, some .boolean, 8, 2, 2, 44)
def mTe_lengthOf : nw_M := (⟨"NewsFlood$Text", "lengthOf", "(J)I"⟩, prog_8_method_9_code, 3, some .int, 8, 1, 1, 22)
def mTe_characterAt : nw_M := (⟨"NewsFlood$Text", "characterAt", "(JI)I"⟩, prog_8_method_8_code, 3, some .int, 8, 2, 0, 0)
def mTe_isOfName : nw_M := (⟨"NewsFlood$Text", "isOfName", "(I)Z"⟩, prog_8_method_6_code, 1, some .boolean, 8, 1, 0, 0)
def mTe_isSign : nw_M := (⟨"NewsFlood$Text", "isSign", "(I)Z"⟩, prog_8_method_7_code, 1, some .boolean, 8, 1, 0, 0)
def mNf_placeOfGroup : nw_M := (⟨"NewsFlood", "placeOfGroup", "(J)I"⟩, prog_1_method_25_code, 4, some .int, 6, 1, 0, 0)
def mNf_peer : nw_M := (⟨"NewsFlood", "peer", "(IIJ)Z"⟩, prog_1_method_3_code, 5, some .boolean, 6, 3, 4, 90)
def mTe_isPattern : nw_M := (⟨"NewsFlood$Text", "isPattern", "(J)Z"⟩, prog_8_method_3_code, 2, some .boolean, 8, 1, 3, 69)
def mBa_clear : nw_M := (⟨"NewsFlood$Backlog", "clear", "()V"⟩, prog_3_method_5_code, 1, none, 1, 0, 0, 0)
def mNf_matches : nw_M := (⟨"NewsFlood", "matches", "(JJ)Z"⟩, prog_1_method_4_code, 5, some .boolean, 6, 2, 4, 90)
def mTe_patternMatches : nw_M := (⟨"NewsFlood$Text", "patternMatches", "(JJ)Z"⟩, prog_8_method_4_code, 11, some .boolean, 8, 2, 2, 54)
def mTe_placesAfter : nw_M := (⟨"NewsFlood$Text", "placesAfter", "(JIIJ)I"⟩, prog_8_method_10_code, 9, some .int, 8, 4, 1, 26)
def mTe_spotsOf : nw_M := (⟨"NewsFlood$Text", "spotsOf", "(IJ)I"⟩, prog_8_method_11_code, 7, some .int, 8, 2, 0, 0)
def mNf_write : nw_M := (⟨"NewsFlood", "write", "(IIIII)Z"⟩, prog_1_method_5_code, 6, some .boolean, 6, 5, 1, 24)
def mNf_isId : nw_M := (⟨"NewsFlood", "isId", "(I)Z"⟩, prog_1_method_22_code, 1, some .boolean, 6, 1, 0, 0)
def mAr_put : nw_M := (⟨"NewsFlood$Article", "put", "(IIII)V"⟩, prog_2_method_2_code, 5, none, 0, 4, 0, 0)
def mNf_post : nw_M := (⟨"NewsFlood", "post", "(III)I"⟩, prog_1_method_6_code, 6, some .int, 6, 3, 3, 71)
def mIn_isOpen : nw_M := (⟨"NewsFlood$Intake", "isOpen", "()Z"⟩, prog_5_method_2_code, 1, some .boolean, 3, 0, 0, 0)
def mEn_knows : nw_M := (⟨"NewsFlood$Entries", "knows", "(I)Z"⟩, prog_4_method_2_code, 2, some .boolean, 2, 1, 0, 0)
def mNf_canUse : nw_M := (⟨"NewsFlood", "canUse", "(LNewsFlood$Server;LNewsFlood$Article;)Z"⟩, prog_1_method_26_code, 3, some .boolean, 6, 2, 1, 22)
def mSe_carriesSome : nw_M := (⟨"NewsFlood$Server", "carriesSome", "(I)Z"⟩, prog_6_method_2_code, 3, some .boolean, 4, 1, 0, 0)
def mSe_lacksRoom : nw_M := (⟨"NewsFlood$Server", "lacksRoom", "(I)Z"⟩, prog_6_method_3_code, 2, some .boolean, 4, 1, 1, 23)
def mEn_isFull : nw_M := (⟨"NewsFlood$Entries", "isFull", "()Z"⟩, prog_4_method_4_code, 1, some .boolean, 2, 0, 0, 0)
def mSp_placeFor : nw_M := (⟨"NewsFlood$Spool", "placeFor", "(I)I"⟩, prog_7_method_2_code, 4, some .int, 5, 1, 0, 0)
def mSe_beginIntake : nw_M := (⟨"NewsFlood$Server", "beginIntake", "(IIII)V"⟩, prog_6_method_4_code, 5, none, 4, 4, 2, 47)
def mSp_take : nw_M := (⟨"NewsFlood$Spool", "take", "(II)V"⟩, prog_7_method_3_code, 5, none, 5, 2, 1, 23)
def mIn_open : nw_M := (⟨"NewsFlood$Intake", "open", "(IIII)V"⟩, prog_5_method_3_code, 5, none, 3, 4, 0, 0)
def mNf_offer : nw_M := (⟨"NewsFlood", "offer", "(II)I"⟩, prog_1_method_7_code, 6, some .int, 6, 2, 3, 71)
def mBa_at : nw_M := (⟨"NewsFlood$Backlog", "at", "(I)I"⟩, prog_3_method_2_code, 2, some .int, 1, 1, 0, 0)
def mBa_remove : nw_M := (⟨"NewsFlood$Backlog", "remove", "(I)V"⟩, prog_3_method_4_code, 4, none, 1, 1, 0, 0)
def mNf_untilOf : nw_M := (⟨"NewsFlood", "untilOf", "(LNewsFlood$Article;)I"⟩, prog_1_method_27_code, 2, some .int, 6, 1, 1, 21)
def mEn_enter : nw_M := (⟨"NewsFlood$Entries", "enter", "(III)V"⟩, prog_4_method_5_code, 4, none, 2, 3, 1, 20)
def mNf_receive : nw_M := (⟨"NewsFlood", "receive", "(II)I"⟩, prog_1_method_8_code, 5, some .int, 6, 2, 6, 158)
def mNf_fileIntake : nw_M := (⟨"NewsFlood", "fileIntake", "(I)V"⟩, prog_1_method_28_code, 7, none, 6, 1, 5, 132)
def mIn_close : nw_M := (⟨"NewsFlood$Intake", "close", "()V"⟩, prog_5_method_4_code, 1, none, 3, 0, 1, 24)
def mSe_hold : nw_M := (⟨"NewsFlood$Server", "hold", "(IIII)V"⟩, prog_6_method_6_code, 6, none, 4, 4, 0, 0)
def mNf_feedOthers : nw_M := (⟨"NewsFlood", "feedOthers", "(LNewsFlood$Server;I)V"⟩, prog_1_method_29_code, 5, none, 6, 2, 4, 108)
def mNf_wants : nw_M := (⟨"NewsFlood", "wants", "(JI)Z"⟩, prog_1_method_30_code, 5, some .boolean, 6, 2, 3, 84)
def mBa_append : nw_M := (⟨"NewsFlood$Backlog", "append", "(I)V"⟩, prog_3_method_3_code, 2, none, 1, 1, 0, 0)
def mNf_cancelAt : nw_M := (⟨"NewsFlood", "cancelAt", "(LNewsFlood$Server;I)V"⟩, prog_1_method_31_code, 3, none, 6, 2, 2, 46)
def mEn_holds : nw_M := (⟨"NewsFlood$Entries", "holds", "(I)Z"⟩, prog_4_method_3_code, 2, some .boolean, 2, 1, 0, 0)
def mSe_removeArticle : nw_M := (⟨"NewsFlood$Server", "removeArticle", "(II)V"⟩, prog_6_method_7_code, 4, none, 4, 2, 1, 23)
def mSp_release : nw_M := (⟨"NewsFlood$Spool", "release", "(I)V"⟩, prog_7_method_4_code, 3, none, 5, 1, 0, 0)
def mNf_crash : nw_M := (⟨"NewsFlood", "crash", "(I)I"⟩, prog_1_method_9_code, 5, some .int, 6, 1, 3, 64)
def mSe_loseIntake : nw_M := (⟨"NewsFlood$Server", "loseIntake", "()V"⟩, prog_6_method_5_code, 1, none, 4, 0, 2, 44)
def mNf_tick : nw_M := (⟨"NewsFlood", "tick", "(I)I"⟩, prog_1_method_10_code, 2, some .int, 6, 1, 0, 0)
def mNf_expire : nw_M := (⟨"NewsFlood", "expire", "(I)I"⟩, prog_1_method_11_code, 5, some .int, 6, 1, 2, 46)
def mSe_takeOldNumbers : nw_M := (⟨"NewsFlood$Server", "takeOldNumbers", "(II)V"⟩, prog_6_method_8_code, 4, none, 4, 2, 0, 0)
def mSe_hasNumber : nw_M := (⟨"NewsFlood$Server", "hasNumber", "(I)Z"⟩, prog_6_method_9_code, 3, some .boolean, 4, 1, 0, 0)
def mEn_dropOlderThan : nw_M := (⟨"NewsFlood$Entries", "dropOlderThan", "(I)V"⟩, prog_4_method_6_code, 3, none, 2, 1, 1, 21)
def mNf_select : nw_M := (⟨"NewsFlood", "select", "(II)I"⟩, prog_1_method_12_code, 3, some .int, 6, 2, 2, 47)
def mNf_carries : nw_M := (⟨"NewsFlood", "carries", "(II)Z"⟩, prog_1_method_23_code, 3, some .boolean, 6, 2, 1, 21)
def mSe_nextNumber : nw_M := (⟨"NewsFlood$Server", "nextNumber", "(II)I"⟩, prog_6_method_10_code, 6, some .int, 4, 2, 0, 0)
def mSe_countAll : nw_M := (⟨"NewsFlood$Server", "countAll", "(I)I"⟩, prog_6_method_14_code, 2, some .int, 4, 1, 1, 26)
def mSe_countNumbers : nw_M := (⟨"NewsFlood$Server", "countNumbers", "(III)I"⟩, prog_6_method_15_code, 7, some .int, 4, 3, 0, 0)
def mNf_step : nw_M := (⟨"NewsFlood", "step", "(IZ)I"⟩, prog_1_method_13_code, 5, some .int, 6, 2, 2, 45)
def mNf_hasSelected : nw_M := (⟨"NewsFlood", "hasSelected", "(I)Z"⟩, prog_1_method_24_code, 2, some .boolean, 6, 1, 1, 21)
def mSe_previousNumber : nw_M := (⟨"NewsFlood$Server", "previousNumber", "(II)I"⟩, prog_6_method_12_code, 6, some .int, 4, 2, 0, 0)
def mNf_goTo : nw_M := (⟨"NewsFlood", "goTo", "(LNewsFlood$Server;I)I"⟩, prog_1_method_32_code, 3, some .int, 6, 2, 1, 23)
def mSe_idWithNumber : nw_M := (⟨"NewsFlood$Server", "idWithNumber", "(II)I"⟩, prog_6_method_13_code, 4, some .int, 4, 2, 0, 0)
def mNf_stat : nw_M := (⟨"NewsFlood", "stat", "(II)I"⟩, prog_1_method_14_code, 3, some .int, 6, 2, 2, 45)
def mNf_over : nw_M := (⟨"NewsFlood", "over", "(III)I"⟩, prog_1_method_15_code, 4, some .int, 6, 3, 2, 42)
def mNf_group : nw_M := (⟨"NewsFlood", "group", "(III)I"⟩, prog_1_method_16_code, 5, some .int, 6, 3, 2, 47)
def mSe_lowestOrNext : nw_M := (⟨"NewsFlood$Server", "lowestOrNext", "(I)I"⟩, prog_6_method_11_code, 3, some .int, 4, 1, 1, 25)
def mNf_history : nw_M := (⟨"NewsFlood", "history", "(III)I"⟩, prog_1_method_17_code, 5, some .int, 6, 3, 1, 21)
def mNf_article : nw_M := (⟨"NewsFlood", "article", "(III)I"⟩, prog_1_method_18_code, 5, some .int, 6, 3, 1, 22)
def mSp_firstBlockOf : nw_M := (⟨"NewsFlood$Spool", "firstBlockOf", "(I)I"⟩, prog_7_method_5_code, 3, some .int, 5, 1, 0, 0)
def mNf_backlog : nw_M := (⟨"NewsFlood", "backlog", "(III)I"⟩, prog_1_method_19_code, 4, some .int, 6, 3, 1, 21)
def mNf_about : nw_M := (⟨"NewsFlood", "about", "(II)I"⟩, prog_1_method_20_code, 4, some .int, 6, 2, 2, 44)
def mEn_countOf : nw_M := (⟨"NewsFlood$Entries", "countOf", "(I)I"⟩, prog_4_method_7_code, 4, some .int, 2, 1, 0, 0)
def mSp_countFree : nw_M := (⟨"NewsFlood$Spool", "countFree", "()I"⟩, prog_7_method_6_code, 3, some .int, 5, 0, 0, 0)
def mSp_longestFree : nw_M := (⟨"NewsFlood$Spool", "longestFree", "()I"⟩, prog_7_method_7_code, 4, some .int, 5, 0, 1, 21)
def mLa_cell : nw_M := (⟨"NewsFloodLaw", "cell", "([II)I"⟩, method_2_code, 2, some .int, 10, 2, 0, 0)
def mMo_init : nw_M := (⟨"NewsFloodModel", "<init>", "(II)V"⟩, prog_10_method_1_code, 4, none, 7, 2, 1, 20)
def mMo_matches : nw_M := (⟨"NewsFloodModel", "matches", "(JJ)Z"⟩, prog_10_method_7_code, 12, some .boolean, 7, 2, 2, 55)
def mMo_length : nw_M := (⟨"NewsFloodModel", "length", "(JZ)I"⟩, prog_10_method_5_code, 9, some .int, 7, 2, 1, 22)
def mMo_at : nw_M := (⟨"NewsFloodModel", "at", "(JI)I"⟩, prog_10_method_4_code, 3, some .int, 7, 2, 0, 0)
def mMo_fits : nw_M := (⟨"NewsFloodModel", "fits", "(JIIJI)Z"⟩, prog_10_method_6_code, 14, some .boolean, 7, 5, 1, 22)
def mMo_carry : nw_M := (⟨"NewsFloodModel", "carry", "(IJI)I"⟩, prog_10_method_17_code, 6, some .int, 7, 3, 2, 50)
def mMo_server : nw_M := (⟨"NewsFloodModel", "server", "(I)Z"⟩, prog_10_method_2_code, 2, some .boolean, 7, 1, 0, 0)
def mMo_peer : nw_M := (⟨"NewsFloodModel", "peer", "(IIJ)Z"⟩, prog_10_method_18_code, 5, some .boolean, 7, 3, 2, 50)
def mMo_write : nw_M := (⟨"NewsFloodModel", "write", "(IIIII)Z"⟩, prog_10_method_20_code, 6, some .boolean, 7, 5, 1, 20)
def mMo_isId : nw_M := (⟨"NewsFloodModel", "isId", "(I)Z"⟩, prog_10_method_3_code, 1, some .boolean, 7, 1, 0, 0)
def mMo_post : nw_M := (⟨"NewsFloodModel", "post", "(III)I"⟩, prog_10_method_22_code, 4, some .int, 7, 3, 4, 95)
def mMo_useless : nw_M := (⟨"NewsFloodModel", "useless", "(II)Z"⟩, prog_10_method_14_code, 5, some .boolean, 7, 2, 1, 22)
def mMo_carries : nw_M := (⟨"NewsFloodModel", "carries", "(II)Z"⟩, prog_10_method_13_code, 3, some .boolean, 7, 2, 0, 0)
def mMo_lacks : nw_M := (⟨"NewsFloodModel", "lacks", "(II)Z"⟩, prog_10_method_15_code, 3, some .boolean, 7, 2, 3, 71)
def mMo_entries : nw_M := (⟨"NewsFloodModel", "entries", "(I)I"⟩, prog_10_method_9_code, 4, some .int, 7, 1, 0, 0)
def mMo_room : nw_M := (⟨"NewsFloodModel", "room", "(II)I"⟩, prog_10_method_12_code, 4, some .int, 7, 2, 2, 48)
def mMo_run : nw_M := (⟨"NewsFloodModel", "run", "(II)I"⟩, prog_10_method_11_code, 4, some .int, 7, 2, 1, 25)
def mMo_free : nw_M := (⟨"NewsFloodModel", "free", "(II)Z"⟩, prog_10_method_10_code, 6, some .boolean, 7, 2, 0, 0)
def mMo_begin : nw_M := (⟨"NewsFloodModel", "begin", "(IIII)V"⟩, prog_10_method_21_code, 5, none, 7, 4, 3, 71)
def mMo_offer : nw_M := (⟨"NewsFloodModel", "offer", "(II)I"⟩, prog_10_method_23_code, 4, some .int, 7, 2, 4, 95)
def mMo_leaves : nw_M := (⟨"NewsFloodModel", "leaves", "(II)V"⟩, prog_10_method_19_code, 5, none, 7, 2, 0, 0)
def mMo_later : nw_M := (⟨"NewsFloodModel", "later", "(I)I"⟩, prog_10_method_16_code, 2, some .int, 7, 1, 0, 0)
def mMo_receive : nw_M := (⟨"NewsFloodModel", "receive", "(II)I"⟩, prog_10_method_24_code, 3, some .int, 7, 2, 5, 135)
def mMo_file : nw_M := (⟨"NewsFloodModel", "file", "(II)V"⟩, prog_10_method_25_code, 6, none, 7, 2, 4, 110)
def mMo_wants : nw_M := (⟨"NewsFloodModel", "wants", "(II)Z"⟩, prog_10_method_26_code, 5, some .boolean, 7, 2, 3, 86)
def mMo_cancel : nw_M := (⟨"NewsFloodModel", "cancel", "(II)V"⟩, prog_10_method_27_code, 4, none, 7, 2, 2, 47)
def mMo_remove : nw_M := (⟨"NewsFloodModel", "remove", "(II)V"⟩, prog_10_method_28_code, 4, none, 7, 2, 1, 24)
def mMo_crash : nw_M := (⟨"NewsFloodModel", "crash", "(I)I"⟩, prog_10_method_29_code, 4, some .int, 7, 1, 1, 21)
def mMo_tick : nw_M := (⟨"NewsFloodModel", "tick", "(I)I"⟩, prog_10_method_30_code, 2, some .int, 7, 1, 0, 0)
def mMo_expire : nw_M := (⟨"NewsFloodModel", "expire", "(I)I"⟩, prog_10_method_31_code, 8, some .int, 7, 1, 2, 47)
def mMo_select : nw_M := (⟨"NewsFloodModel", "select", "(II)I"⟩, prog_10_method_35_code, 4, some .int, 7, 2, 4, 94)
def mMo_next : nw_M := (⟨"NewsFloodModel", "next", "(IIIZ)I"⟩, prog_10_method_34_code, 10, some .int, 7, 4, 3, 65)
def mMo_numberOf : nw_M := (⟨"NewsFloodModel", "numberOf", "(III)I"⟩, prog_10_method_32_code, 4, some .int, 7, 3, 2, 42)
def mMo_holds : nw_M := (⟨"NewsFloodModel", "holds", "(II)Z"⟩, prog_10_method_8_code, 3, some .boolean, 7, 2, 1, 20)
def mMo_count : nw_M := (⟨"NewsFloodModel", "count", "(IIII)I"⟩, prog_10_method_33_code, 8, some .int, 7, 4, 3, 65)
def mMo_step : nw_M := (⟨"NewsFloodModel", "step", "(IZ)I"⟩, prog_10_method_36_code, 4, some .int, 7, 2, 4, 94)
def mMo_stat : nw_M := (⟨"NewsFloodModel", "stat", "(II)I"⟩, prog_10_method_37_code, 5, some .int, 7, 2, 3, 65)
def mMo_over : nw_M := (⟨"NewsFloodModel", "over", "(III)I"⟩, prog_10_method_38_code, 4, some .int, 7, 3, 4, 92)
def mMo_group : nw_M := (⟨"NewsFloodModel", "group", "(III)I"⟩, prog_10_method_39_code, 6, some .int, 7, 3, 4, 94)
def mMo_history : nw_M := (⟨"NewsFloodModel", "history", "(III)I"⟩, prog_10_method_40_code, 5, some .int, 7, 3, 1, 21)
def mMo_article : nw_M := (⟨"NewsFloodModel", "article", "(III)I"⟩, prog_10_method_41_code, 5, some .int, 7, 3, 2, 42)
def mMo_backlog : nw_M := (⟨"NewsFloodModel", "backlog", "(III)I"⟩, prog_10_method_42_code, 4, some .int, 7, 3, 1, 21)
def mMo_about : nw_M := (⟨"NewsFloodModel", "about", "(II)I"⟩, prog_10_method_43_code, 8, some .int, 7, 2, 2, 48)
def mLa_law : nw_M := (⟨"NewsFloodLaw", "law", "([I)Z"⟩, code, 4, some .boolean, 10, 1, 7, 182)
def nw_mok (M : nw_M) : Prop := plainName (nw_y M).cls = true ∧ (nw_y M).cls = nw_R (nw_on M) ∧ Cond.code (nw_y M) (nw_cc M) (nw_ml M) (nw_rt M) ∈ nw_tb ∧ Cond.initialized (nw_y M).cls ∈ nw_tb ∧ (nw_y M).cls ≠ "java/lang/invoke/MethodHandle" ∧ (nw_y M).cls ≠ "java/lang/invoke/VarHandle"
set_option maxRecDepth 20000 in
theorem mNf_init_ok : nw_mok mNf_init := ⟨by decide, rfl, nw_in (i := 44) rfl rfl, nw_in (i := 30) rfl rfl, by decide, by decide⟩
set_option maxRecDepth 20000 in
theorem mSe_init_ok : nw_mok mSe_init := ⟨by decide, rfl, nw_in (i := 59) rfl rfl, nw_in (i := 32) rfl rfl, by decide, by decide⟩
set_option maxRecDepth 20000 in
theorem mSp_init_ok : nw_mok mSp_init := ⟨by decide, rfl, nw_in (i := 65) rfl rfl, nw_in (i := 33) rfl rfl, by decide, by decide⟩
set_option maxRecDepth 20000 in
theorem mEn_init_ok : nw_mok mEn_init := ⟨by decide, rfl, nw_in (i := 76) rfl rfl, nw_in (i := 34) rfl rfl, by decide, by decide⟩
set_option maxRecDepth 20000 in
theorem mIn_init_ok : nw_mok mIn_init := ⟨by decide, rfl, nw_in (i := 96) rfl rfl, nw_in (i := 35) rfl rfl, by decide, by decide⟩
set_option maxRecDepth 20000 in
theorem mBa_init_ok : nw_mok mBa_init := ⟨by decide, rfl, nw_in (i := 123) rfl rfl, nw_in (i := 36) rfl rfl, by decide, by decide⟩
set_option maxRecDepth 20000 in
theorem mAr_init_ok : nw_mok mAr_init := ⟨by decide, rfl, nw_in (i := 187) rfl rfl, nw_in (i := 37) rfl rfl, by decide, by decide⟩
set_option maxRecDepth 20000 in
theorem mNf_carry_ok : nw_mok mNf_carry := ⟨by decide, rfl, nw_in (i := 235) rfl rfl, nw_in (i := 30) rfl rfl, by decide, by decide⟩
set_option maxRecDepth 20000 in
theorem mNf_isServer_ok : nw_mok mNf_isServer := ⟨by decide, rfl, nw_in (i := 239) rfl rfl, nw_in (i := 30) rfl rfl, by decide, by decide⟩
set_option maxRecDepth 20000 in
theorem mTe_isName_ok : nw_mok mTe_isName := ⟨by decide, rfl, nw_in (i := 242) rfl rfl, nw_in (i := 39) rfl rfl, by decide, by decide⟩
set_option maxRecDepth 20000 in
theorem mTe_isText_ok : nw_mok mTe_isText := ⟨by decide, rfl, nw_in (i := 245) rfl rfl, nw_in (i := 39) rfl rfl, by decide, by decide⟩
set_option maxRecDepth 20000 in
theorem mTe_lengthOf_ok : nw_mok mTe_lengthOf := ⟨by decide, rfl, nw_in (i := 248) rfl rfl, nw_in (i := 39) rfl rfl, by decide, by decide⟩
set_option maxRecDepth 20000 in
theorem mTe_characterAt_ok : nw_mok mTe_characterAt := ⟨by decide, rfl, nw_in (i := 251) rfl rfl, nw_in (i := 39) rfl rfl, by decide, by decide⟩
set_option maxRecDepth 20000 in
theorem mTe_isOfName_ok : nw_mok mTe_isOfName := ⟨by decide, rfl, nw_in (i := 254) rfl rfl, nw_in (i := 39) rfl rfl, by decide, by decide⟩
set_option maxRecDepth 20000 in
theorem mTe_isSign_ok : nw_mok mTe_isSign := ⟨by decide, rfl, nw_in (i := 257) rfl rfl, nw_in (i := 39) rfl rfl, by decide, by decide⟩
set_option maxRecDepth 20000 in
theorem mNf_placeOfGroup_ok : nw_mok mNf_placeOfGroup := ⟨by decide, rfl, nw_in (i := 261) rfl rfl, nw_in (i := 30) rfl rfl, by decide, by decide⟩
set_option maxRecDepth 20000 in
theorem mNf_peer_ok : nw_mok mNf_peer := ⟨by decide, rfl, nw_in (i := 265) rfl rfl, nw_in (i := 30) rfl rfl, by decide, by decide⟩
set_option maxRecDepth 20000 in
theorem mTe_isPattern_ok : nw_mok mTe_isPattern := ⟨by decide, rfl, nw_in (i := 268) rfl rfl, nw_in (i := 39) rfl rfl, by decide, by decide⟩
set_option maxRecDepth 20000 in
theorem mBa_clear_ok : nw_mok mBa_clear := ⟨by decide, rfl, nw_in (i := 272) rfl rfl, nw_in (i := 36) rfl rfl, by decide, by decide⟩
set_option maxRecDepth 20000 in
theorem mNf_matches_ok : nw_mok mNf_matches := ⟨by decide, rfl, nw_in (i := 276) rfl rfl, nw_in (i := 30) rfl rfl, by decide, by decide⟩
set_option maxRecDepth 20000 in
theorem mTe_patternMatches_ok : nw_mok mTe_patternMatches := ⟨by decide, rfl, nw_in (i := 279) rfl rfl, nw_in (i := 39) rfl rfl, by decide, by decide⟩
set_option maxRecDepth 20000 in
theorem mTe_placesAfter_ok : nw_mok mTe_placesAfter := ⟨by decide, rfl, nw_in (i := 282) rfl rfl, nw_in (i := 39) rfl rfl, by decide, by decide⟩
set_option maxRecDepth 20000 in
theorem mTe_spotsOf_ok : nw_mok mTe_spotsOf := ⟨by decide, rfl, nw_in (i := 285) rfl rfl, nw_in (i := 39) rfl rfl, by decide, by decide⟩
set_option maxRecDepth 20000 in
theorem mNf_write_ok : nw_mok mNf_write := ⟨by decide, rfl, nw_in (i := 290) rfl rfl, nw_in (i := 30) rfl rfl, by decide, by decide⟩
set_option maxRecDepth 20000 in
theorem mNf_isId_ok : nw_mok mNf_isId := ⟨by decide, rfl, nw_in (i := 293) rfl rfl, nw_in (i := 30) rfl rfl, by decide, by decide⟩
set_option maxRecDepth 20000 in
theorem mAr_put_ok : nw_mok mAr_put := ⟨by decide, rfl, nw_in (i := 298) rfl rfl, nw_in (i := 37) rfl rfl, by decide, by decide⟩
set_option maxRecDepth 20000 in
theorem mNf_post_ok : nw_mok mNf_post := ⟨by decide, rfl, nw_in (i := 302) rfl rfl, nw_in (i := 30) rfl rfl, by decide, by decide⟩
set_option maxRecDepth 20000 in
theorem mIn_isOpen_ok : nw_mok mIn_isOpen := ⟨by decide, rfl, nw_in (i := 306) rfl rfl, nw_in (i := 35) rfl rfl, by decide, by decide⟩
set_option maxRecDepth 20000 in
theorem mEn_knows_ok : nw_mok mEn_knows := ⟨by decide, rfl, nw_in (i := 310) rfl rfl, nw_in (i := 34) rfl rfl, by decide, by decide⟩
set_option maxRecDepth 20000 in
theorem mNf_canUse_ok : nw_mok mNf_canUse := ⟨by decide, rfl, nw_in (i := 314) rfl rfl, nw_in (i := 30) rfl rfl, by decide, by decide⟩
set_option maxRecDepth 20000 in
theorem mSe_carriesSome_ok : nw_mok mSe_carriesSome := ⟨by decide, rfl, nw_in (i := 318) rfl rfl, nw_in (i := 32) rfl rfl, by decide, by decide⟩
set_option maxRecDepth 20000 in
theorem mSe_lacksRoom_ok : nw_mok mSe_lacksRoom := ⟨by decide, rfl, nw_in (i := 322) rfl rfl, nw_in (i := 32) rfl rfl, by decide, by decide⟩
set_option maxRecDepth 20000 in
theorem mEn_isFull_ok : nw_mok mEn_isFull := ⟨by decide, rfl, nw_in (i := 326) rfl rfl, nw_in (i := 34) rfl rfl, by decide, by decide⟩
set_option maxRecDepth 20000 in
theorem mSp_placeFor_ok : nw_mok mSp_placeFor := ⟨by decide, rfl, nw_in (i := 330) rfl rfl, nw_in (i := 33) rfl rfl, by decide, by decide⟩
set_option maxRecDepth 20000 in
theorem mSe_beginIntake_ok : nw_mok mSe_beginIntake := ⟨by decide, rfl, nw_in (i := 334) rfl rfl, nw_in (i := 32) rfl rfl, by decide, by decide⟩
set_option maxRecDepth 20000 in
theorem mSp_take_ok : nw_mok mSp_take := ⟨by decide, rfl, nw_in (i := 338) rfl rfl, nw_in (i := 33) rfl rfl, by decide, by decide⟩
set_option maxRecDepth 20000 in
theorem mIn_open_ok : nw_mok mIn_open := ⟨by decide, rfl, nw_in (i := 343) rfl rfl, nw_in (i := 35) rfl rfl, by decide, by decide⟩
set_option maxRecDepth 20000 in
theorem mNf_offer_ok : nw_mok mNf_offer := ⟨by decide, rfl, nw_in (i := 347) rfl rfl, nw_in (i := 30) rfl rfl, by decide, by decide⟩
set_option maxRecDepth 20000 in
theorem mBa_at_ok : nw_mok mBa_at := ⟨by decide, rfl, nw_in (i := 351) rfl rfl, nw_in (i := 36) rfl rfl, by decide, by decide⟩
set_option maxRecDepth 20000 in
theorem mBa_remove_ok : nw_mok mBa_remove := ⟨by decide, rfl, nw_in (i := 355) rfl rfl, nw_in (i := 36) rfl rfl, by decide, by decide⟩
set_option maxRecDepth 20000 in
theorem mNf_untilOf_ok : nw_mok mNf_untilOf := ⟨by decide, rfl, nw_in (i := 359) rfl rfl, nw_in (i := 30) rfl rfl, by decide, by decide⟩
set_option maxRecDepth 20000 in
theorem mEn_enter_ok : nw_mok mEn_enter := ⟨by decide, rfl, nw_in (i := 363) rfl rfl, nw_in (i := 34) rfl rfl, by decide, by decide⟩
set_option maxRecDepth 20000 in
theorem mNf_receive_ok : nw_mok mNf_receive := ⟨by decide, rfl, nw_in (i := 368) rfl rfl, nw_in (i := 30) rfl rfl, by decide, by decide⟩
set_option maxRecDepth 20000 in
theorem mNf_fileIntake_ok : nw_mok mNf_fileIntake := ⟨by decide, rfl, nw_in (i := 372) rfl rfl, nw_in (i := 30) rfl rfl, by decide, by decide⟩
set_option maxRecDepth 20000 in
theorem mIn_close_ok : nw_mok mIn_close := ⟨by decide, rfl, nw_in (i := 376) rfl rfl, nw_in (i := 35) rfl rfl, by decide, by decide⟩
set_option maxRecDepth 20000 in
theorem mSe_hold_ok : nw_mok mSe_hold := ⟨by decide, rfl, nw_in (i := 381) rfl rfl, nw_in (i := 32) rfl rfl, by decide, by decide⟩
set_option maxRecDepth 20000 in
theorem mNf_feedOthers_ok : nw_mok mNf_feedOthers := ⟨by decide, rfl, nw_in (i := 385) rfl rfl, nw_in (i := 30) rfl rfl, by decide, by decide⟩
set_option maxRecDepth 20000 in
theorem mNf_wants_ok : nw_mok mNf_wants := ⟨by decide, rfl, nw_in (i := 389) rfl rfl, nw_in (i := 30) rfl rfl, by decide, by decide⟩
set_option maxRecDepth 20000 in
theorem mBa_append_ok : nw_mok mBa_append := ⟨by decide, rfl, nw_in (i := 393) rfl rfl, nw_in (i := 36) rfl rfl, by decide, by decide⟩
set_option maxRecDepth 20000 in
theorem mNf_cancelAt_ok : nw_mok mNf_cancelAt := ⟨by decide, rfl, nw_in (i := 397) rfl rfl, nw_in (i := 30) rfl rfl, by decide, by decide⟩
set_option maxRecDepth 20000 in
theorem mEn_holds_ok : nw_mok mEn_holds := ⟨by decide, rfl, nw_in (i := 401) rfl rfl, nw_in (i := 34) rfl rfl, by decide, by decide⟩
set_option maxRecDepth 20000 in
theorem mSe_removeArticle_ok : nw_mok mSe_removeArticle := ⟨by decide, rfl, nw_in (i := 405) rfl rfl, nw_in (i := 32) rfl rfl, by decide, by decide⟩
set_option maxRecDepth 20000 in
theorem mSp_release_ok : nw_mok mSp_release := ⟨by decide, rfl, nw_in (i := 409) rfl rfl, nw_in (i := 33) rfl rfl, by decide, by decide⟩
set_option maxRecDepth 20000 in
theorem mNf_crash_ok : nw_mok mNf_crash := ⟨by decide, rfl, nw_in (i := 414) rfl rfl, nw_in (i := 30) rfl rfl, by decide, by decide⟩
set_option maxRecDepth 20000 in
theorem mSe_loseIntake_ok : nw_mok mSe_loseIntake := ⟨by decide, rfl, nw_in (i := 418) rfl rfl, nw_in (i := 32) rfl rfl, by decide, by decide⟩
set_option maxRecDepth 20000 in
theorem mNf_tick_ok : nw_mok mNf_tick := ⟨by decide, rfl, nw_in (i := 423) rfl rfl, nw_in (i := 30) rfl rfl, by decide, by decide⟩
set_option maxRecDepth 20000 in
theorem mNf_expire_ok : nw_mok mNf_expire := ⟨by decide, rfl, nw_in (i := 427) rfl rfl, nw_in (i := 30) rfl rfl, by decide, by decide⟩
set_option maxRecDepth 20000 in
theorem mSe_takeOldNumbers_ok : nw_mok mSe_takeOldNumbers := ⟨by decide, rfl, nw_in (i := 431) rfl rfl, nw_in (i := 32) rfl rfl, by decide, by decide⟩
set_option maxRecDepth 20000 in
theorem mSe_hasNumber_ok : nw_mok mSe_hasNumber := ⟨by decide, rfl, nw_in (i := 435) rfl rfl, nw_in (i := 32) rfl rfl, by decide, by decide⟩
set_option maxRecDepth 20000 in
theorem mEn_dropOlderThan_ok : nw_mok mEn_dropOlderThan := ⟨by decide, rfl, nw_in (i := 439) rfl rfl, nw_in (i := 34) rfl rfl, by decide, by decide⟩
set_option maxRecDepth 20000 in
theorem mNf_select_ok : nw_mok mNf_select := ⟨by decide, rfl, nw_in (i := 445) rfl rfl, nw_in (i := 30) rfl rfl, by decide, by decide⟩
set_option maxRecDepth 20000 in
theorem mNf_carries_ok : nw_mok mNf_carries := ⟨by decide, rfl, nw_in (i := 449) rfl rfl, nw_in (i := 30) rfl rfl, by decide, by decide⟩
set_option maxRecDepth 20000 in
theorem mSe_nextNumber_ok : nw_mok mSe_nextNumber := ⟨by decide, rfl, nw_in (i := 453) rfl rfl, nw_in (i := 32) rfl rfl, by decide, by decide⟩
set_option maxRecDepth 20000 in
theorem mSe_countAll_ok : nw_mok mSe_countAll := ⟨by decide, rfl, nw_in (i := 457) rfl rfl, nw_in (i := 32) rfl rfl, by decide, by decide⟩
set_option maxRecDepth 20000 in
theorem mSe_countNumbers_ok : nw_mok mSe_countNumbers := ⟨by decide, rfl, nw_in (i := 461) rfl rfl, nw_in (i := 32) rfl rfl, by decide, by decide⟩
set_option maxRecDepth 20000 in
theorem mNf_step_ok : nw_mok mNf_step := ⟨by decide, rfl, nw_in (i := 465) rfl rfl, nw_in (i := 30) rfl rfl, by decide, by decide⟩
set_option maxRecDepth 20000 in
theorem mNf_hasSelected_ok : nw_mok mNf_hasSelected := ⟨by decide, rfl, nw_in (i := 469) rfl rfl, nw_in (i := 30) rfl rfl, by decide, by decide⟩
set_option maxRecDepth 20000 in
theorem mSe_previousNumber_ok : nw_mok mSe_previousNumber := ⟨by decide, rfl, nw_in (i := 473) rfl rfl, nw_in (i := 32) rfl rfl, by decide, by decide⟩
set_option maxRecDepth 20000 in
theorem mNf_goTo_ok : nw_mok mNf_goTo := ⟨by decide, rfl, nw_in (i := 476) rfl rfl, nw_in (i := 30) rfl rfl, by decide, by decide⟩
set_option maxRecDepth 20000 in
theorem mSe_idWithNumber_ok : nw_mok mSe_idWithNumber := ⟨by decide, rfl, nw_in (i := 480) rfl rfl, nw_in (i := 32) rfl rfl, by decide, by decide⟩
set_option maxRecDepth 20000 in
theorem mNf_stat_ok : nw_mok mNf_stat := ⟨by decide, rfl, nw_in (i := 484) rfl rfl, nw_in (i := 30) rfl rfl, by decide, by decide⟩
set_option maxRecDepth 20000 in
theorem mNf_over_ok : nw_mok mNf_over := ⟨by decide, rfl, nw_in (i := 488) rfl rfl, nw_in (i := 30) rfl rfl, by decide, by decide⟩
set_option maxRecDepth 20000 in
theorem mNf_group_ok : nw_mok mNf_group := ⟨by decide, rfl, nw_in (i := 493) rfl rfl, nw_in (i := 30) rfl rfl, by decide, by decide⟩
set_option maxRecDepth 20000 in
theorem mSe_lowestOrNext_ok : nw_mok mSe_lowestOrNext := ⟨by decide, rfl, nw_in (i := 497) rfl rfl, nw_in (i := 32) rfl rfl, by decide, by decide⟩
set_option maxRecDepth 20000 in
theorem mNf_history_ok : nw_mok mNf_history := ⟨by decide, rfl, nw_in (i := 502) rfl rfl, nw_in (i := 30) rfl rfl, by decide, by decide⟩
set_option maxRecDepth 20000 in
theorem mNf_article_ok : nw_mok mNf_article := ⟨by decide, rfl, nw_in (i := 506) rfl rfl, nw_in (i := 30) rfl rfl, by decide, by decide⟩
set_option maxRecDepth 20000 in
theorem mSp_firstBlockOf_ok : nw_mok mSp_firstBlockOf := ⟨by decide, rfl, nw_in (i := 510) rfl rfl, nw_in (i := 33) rfl rfl, by decide, by decide⟩
set_option maxRecDepth 20000 in
theorem mNf_backlog_ok : nw_mok mNf_backlog := ⟨by decide, rfl, nw_in (i := 514) rfl rfl, nw_in (i := 30) rfl rfl, by decide, by decide⟩
set_option maxRecDepth 20000 in
theorem mNf_about_ok : nw_mok mNf_about := ⟨by decide, rfl, nw_in (i := 518) rfl rfl, nw_in (i := 30) rfl rfl, by decide, by decide⟩
set_option maxRecDepth 20000 in
theorem mEn_countOf_ok : nw_mok mEn_countOf := ⟨by decide, rfl, nw_in (i := 522) rfl rfl, nw_in (i := 34) rfl rfl, by decide, by decide⟩
set_option maxRecDepth 20000 in
theorem mSp_countFree_ok : nw_mok mSp_countFree := ⟨by decide, rfl, nw_in (i := 526) rfl rfl, nw_in (i := 33) rfl rfl, by decide, by decide⟩
set_option maxRecDepth 20000 in
theorem mSp_longestFree_ok : nw_mok mSp_longestFree := ⟨by decide, rfl, nw_in (i := 530) rfl rfl, nw_in (i := 33) rfl rfl, by decide, by decide⟩
set_option maxRecDepth 20000 in
theorem mLa_cell_ok : nw_mok mLa_cell := ⟨by decide, rfl, nw_in (i := 534) rfl rfl, nw_in (i := 29) rfl rfl, by decide, by decide⟩
set_option maxRecDepth 20000 in
theorem mMo_init_ok : nw_mok mMo_init := ⟨by decide, rfl, nw_in (i := 539) rfl rfl, nw_in (i := 38) rfl rfl, by decide, by decide⟩
set_option maxRecDepth 20000 in
theorem mMo_matches_ok : nw_mok mMo_matches := ⟨by decide, rfl, nw_in (i := 630) rfl rfl, nw_in (i := 38) rfl rfl, by decide, by decide⟩
set_option maxRecDepth 20000 in
theorem mMo_length_ok : nw_mok mMo_length := ⟨by decide, rfl, nw_in (i := 633) rfl rfl, nw_in (i := 38) rfl rfl, by decide, by decide⟩
set_option maxRecDepth 20000 in
theorem mMo_at_ok : nw_mok mMo_at := ⟨by decide, rfl, nw_in (i := 636) rfl rfl, nw_in (i := 38) rfl rfl, by decide, by decide⟩
set_option maxRecDepth 20000 in
theorem mMo_fits_ok : nw_mok mMo_fits := ⟨by decide, rfl, nw_in (i := 639) rfl rfl, nw_in (i := 38) rfl rfl, by decide, by decide⟩
set_option maxRecDepth 20000 in
theorem mMo_carry_ok : nw_mok mMo_carry := ⟨by decide, rfl, nw_in (i := 643) rfl rfl, nw_in (i := 38) rfl rfl, by decide, by decide⟩
set_option maxRecDepth 20000 in
theorem mMo_server_ok : nw_mok mMo_server := ⟨by decide, rfl, nw_in (i := 647) rfl rfl, nw_in (i := 38) rfl rfl, by decide, by decide⟩
set_option maxRecDepth 20000 in
theorem mMo_peer_ok : nw_mok mMo_peer := ⟨by decide, rfl, nw_in (i := 651) rfl rfl, nw_in (i := 38) rfl rfl, by decide, by decide⟩
set_option maxRecDepth 20000 in
theorem mMo_write_ok : nw_mok mMo_write := ⟨by decide, rfl, nw_in (i := 655) rfl rfl, nw_in (i := 38) rfl rfl, by decide, by decide⟩
set_option maxRecDepth 20000 in
theorem mMo_isId_ok : nw_mok mMo_isId := ⟨by decide, rfl, nw_in (i := 658) rfl rfl, nw_in (i := 38) rfl rfl, by decide, by decide⟩
set_option maxRecDepth 20000 in
theorem mMo_post_ok : nw_mok mMo_post := ⟨by decide, rfl, nw_in (i := 663) rfl rfl, nw_in (i := 38) rfl rfl, by decide, by decide⟩
set_option maxRecDepth 20000 in
theorem mMo_useless_ok : nw_mok mMo_useless := ⟨by decide, rfl, nw_in (i := 667) rfl rfl, nw_in (i := 38) rfl rfl, by decide, by decide⟩
set_option maxRecDepth 20000 in
theorem mMo_carries_ok : nw_mok mMo_carries := ⟨by decide, rfl, nw_in (i := 671) rfl rfl, nw_in (i := 38) rfl rfl, by decide, by decide⟩
set_option maxRecDepth 20000 in
theorem mMo_lacks_ok : nw_mok mMo_lacks := ⟨by decide, rfl, nw_in (i := 675) rfl rfl, nw_in (i := 38) rfl rfl, by decide, by decide⟩
set_option maxRecDepth 20000 in
theorem mMo_entries_ok : nw_mok mMo_entries := ⟨by decide, rfl, nw_in (i := 679) rfl rfl, nw_in (i := 38) rfl rfl, by decide, by decide⟩
set_option maxRecDepth 20000 in
theorem mMo_room_ok : nw_mok mMo_room := ⟨by decide, rfl, nw_in (i := 683) rfl rfl, nw_in (i := 38) rfl rfl, by decide, by decide⟩
set_option maxRecDepth 20000 in
theorem mMo_run_ok : nw_mok mMo_run := ⟨by decide, rfl, nw_in (i := 687) rfl rfl, nw_in (i := 38) rfl rfl, by decide, by decide⟩
set_option maxRecDepth 20000 in
theorem mMo_free_ok : nw_mok mMo_free := ⟨by decide, rfl, nw_in (i := 691) rfl rfl, nw_in (i := 38) rfl rfl, by decide, by decide⟩
set_option maxRecDepth 20000 in
theorem mMo_begin_ok : nw_mok mMo_begin := ⟨by decide, rfl, nw_in (i := 695) rfl rfl, nw_in (i := 38) rfl rfl, by decide, by decide⟩
set_option maxRecDepth 20000 in
theorem mMo_offer_ok : nw_mok mMo_offer := ⟨by decide, rfl, nw_in (i := 699) rfl rfl, nw_in (i := 38) rfl rfl, by decide, by decide⟩
set_option maxRecDepth 20000 in
theorem mMo_leaves_ok : nw_mok mMo_leaves := ⟨by decide, rfl, nw_in (i := 703) rfl rfl, nw_in (i := 38) rfl rfl, by decide, by decide⟩
set_option maxRecDepth 20000 in
theorem mMo_later_ok : nw_mok mMo_later := ⟨by decide, rfl, nw_in (i := 707) rfl rfl, nw_in (i := 38) rfl rfl, by decide, by decide⟩
set_option maxRecDepth 20000 in
theorem mMo_receive_ok : nw_mok mMo_receive := ⟨by decide, rfl, nw_in (i := 711) rfl rfl, nw_in (i := 38) rfl rfl, by decide, by decide⟩
set_option maxRecDepth 20000 in
theorem mMo_file_ok : nw_mok mMo_file := ⟨by decide, rfl, nw_in (i := 715) rfl rfl, nw_in (i := 38) rfl rfl, by decide, by decide⟩
set_option maxRecDepth 20000 in
theorem mMo_wants_ok : nw_mok mMo_wants := ⟨by decide, rfl, nw_in (i := 719) rfl rfl, nw_in (i := 38) rfl rfl, by decide, by decide⟩
set_option maxRecDepth 20000 in
theorem mMo_cancel_ok : nw_mok mMo_cancel := ⟨by decide, rfl, nw_in (i := 724) rfl rfl, nw_in (i := 38) rfl rfl, by decide, by decide⟩
set_option maxRecDepth 20000 in
theorem mMo_remove_ok : nw_mok mMo_remove := ⟨by decide, rfl, nw_in (i := 728) rfl rfl, nw_in (i := 38) rfl rfl, by decide, by decide⟩
set_option maxRecDepth 20000 in
theorem mMo_crash_ok : nw_mok mMo_crash := ⟨by decide, rfl, nw_in (i := 732) rfl rfl, nw_in (i := 38) rfl rfl, by decide, by decide⟩
set_option maxRecDepth 20000 in
theorem mMo_tick_ok : nw_mok mMo_tick := ⟨by decide, rfl, nw_in (i := 736) rfl rfl, nw_in (i := 38) rfl rfl, by decide, by decide⟩
set_option maxRecDepth 20000 in
theorem mMo_expire_ok : nw_mok mMo_expire := ⟨by decide, rfl, nw_in (i := 740) rfl rfl, nw_in (i := 38) rfl rfl, by decide, by decide⟩
set_option maxRecDepth 20000 in
theorem mMo_select_ok : nw_mok mMo_select := ⟨by decide, rfl, nw_in (i := 744) rfl rfl, nw_in (i := 38) rfl rfl, by decide, by decide⟩
set_option maxRecDepth 20000 in
theorem mMo_next_ok : nw_mok mMo_next := ⟨by decide, rfl, nw_in (i := 748) rfl rfl, nw_in (i := 38) rfl rfl, by decide, by decide⟩
set_option maxRecDepth 20000 in
theorem mMo_numberOf_ok : nw_mok mMo_numberOf := ⟨by decide, rfl, nw_in (i := 752) rfl rfl, nw_in (i := 38) rfl rfl, by decide, by decide⟩
set_option maxRecDepth 20000 in
theorem mMo_holds_ok : nw_mok mMo_holds := ⟨by decide, rfl, nw_in (i := 756) rfl rfl, nw_in (i := 38) rfl rfl, by decide, by decide⟩
set_option maxRecDepth 20000 in
theorem mMo_count_ok : nw_mok mMo_count := ⟨by decide, rfl, nw_in (i := 760) rfl rfl, nw_in (i := 38) rfl rfl, by decide, by decide⟩
set_option maxRecDepth 20000 in
theorem mMo_step_ok : nw_mok mMo_step := ⟨by decide, rfl, nw_in (i := 764) rfl rfl, nw_in (i := 38) rfl rfl, by decide, by decide⟩
set_option maxRecDepth 20000 in
theorem mMo_stat_ok : nw_mok mMo_stat := ⟨by decide, rfl, nw_in (i := 768) rfl rfl, nw_in (i := 38) rfl rfl, by decide, by decide⟩
set_option maxRecDepth 20000 in
theorem mMo_over_ok : nw_mok mMo_over := ⟨by decide, rfl, nw_in (i := 772) rfl rfl, nw_in (i := 38) rfl rfl, by decide, by decide⟩
set_option maxRecDepth 20000 in
theorem mMo_group_ok : nw_mok mMo_group := ⟨by decide, rfl, nw_in (i := 776) rfl rfl, nw_in (i := 38) rfl rfl, by decide, by decide⟩
set_option maxRecDepth 20000 in
theorem mMo_history_ok : nw_mok mMo_history := ⟨by decide, rfl, nw_in (i := 780) rfl rfl, nw_in (i := 38) rfl rfl, by decide, by decide⟩
set_option maxRecDepth 20000 in
theorem mMo_article_ok : nw_mok mMo_article := ⟨by decide, rfl, nw_in (i := 784) rfl rfl, nw_in (i := 38) rfl rfl, by decide, by decide⟩
set_option maxRecDepth 20000 in
theorem mMo_backlog_ok : nw_mok mMo_backlog := ⟨by decide, rfl, nw_in (i := 788) rfl rfl, nw_in (i := 38) rfl rfl, by decide, by decide⟩
set_option maxRecDepth 20000 in
theorem mMo_about_ok : nw_mok mMo_about := ⟨by decide, rfl, nw_in (i := 792) rfl rfl, nw_in (i := 38) rfl rfl, by decide, by decide⟩
def nw_flT : List ((Nat × Nat) × (Nat × Nat)) := [((0, 7), (0, 0)), ((0, 13), (0, 2)), ((0, 17), (0, 3)), ((0, 20), (0, 4)), ((0, 23), (0, 5)), ((1, 11), (1, 0)), ((1, 17), (1, 1)), ((2, 9), (2, 0)), ((2, 15), (2, 1)), ((2, 18), (2, 2)), ((3, 9), (3, 3)), ((3, 15), (3, 0)), ((3, 18), (3, 1)), ((3, 21), (3, 2)), ((4, 12), (4, 0)), ((4, 21), (4, 1)), ((4, 28), (4, 2)), ((4, 32), (4, 3)), ((4, 36), (4, 4)), ((4, 41), (4, 5)), ((4, 44), (4, 6)), ((4, 47), (4, 7)), ((4, 50), (4, 8)), ((4, 56), (4, 9)), ((4, 61), (4, 10)), ((4, 65), (4, 11)), ((4, 84), (3, 0)), ((4, 94), (2, 0)), ((5, 11), (5, 0)), ((6, 18), (6, 0)), ((6, 24), (6, 1)), ((6, 33), (6, 2)), ((6, 38), (6, 3)), ((6, 56), (6, 4)), ((6, 59), (4, 3)), ((6, 66), (4, 8)), ((6, 69), (4, 9)), ((6, 85), (0, 1)), ((6, 94), (0, 0)), ((6, 97), (4, 2)), ((6, 107), (4, 1)), ((6, 120), (0, 4)), ((6, 144), (4, 7)), ((6, 147), (3, 1)), ((6, 153), (3, 3)), ((6, 159), (4, 10)), ((6, 162), (4, 11)), ((6, 165), (6, 5)), ((6, 208), (4, 4)), ((6, 214), (2, 0)), ((6, 217), (2, 1)), ((6, 220), (4, 0)), ((6, 229), (4, 6)), ((6, 232), (4, 5)), ((6, 246), (2, 2)), ((6, 249), (3, 0)), ((6, 252), (0, 3)), ((6, 255), (0, 2)), ((6, 261), (3, 2)), ((6, 273), (0, 5)), ((7, 7), (7, 4)), ((7, 13), (7, 5)), ((7, 17), (7, 6)), ((7, 20), (7, 7)), ((7, 23), (7, 8)), ((7, 26), (7, 9)), ((7, 30), (7, 10)), ((7, 33), (7, 11)), ((7, 36), (7, 12)), ((7, 39), (7, 13)), ((7, 42), (7, 14)), ((7, 45), (7, 15)), ((7, 48), (7, 16)), ((7, 51), (7, 17)), ((7, 54), (7, 18)), ((7, 57), (7, 19)), ((7, 60), (7, 20)), ((7, 63), (7, 21)), ((7, 66), (7, 22)), ((7, 69), (7, 23)), ((7, 72), (7, 24)), ((7, 75), (7, 25)), ((7, 78), (7, 26)), ((7, 81), (7, 27)), ((7, 84), (7, 0)), ((7, 88), (7, 1)), ((7, 118), (7, 2)), ((7, 128), (7, 3))]
def nw_fl (o i : Nat) : Option (Nat × Nat) := (nw_flT.find? (fun q => q.1.1 == o && q.1.2 == i)).map (fun q => q.2)
def nw_flOK (q : (Nat × Nat) × (Nat × Nat)) : Prop := q.2.1 < 8 ∧ q.2.2 < nw_N q.2.1 ∧ Cond.fieldLink (nw_R q.1.1) q.1.2 (nw_T q.2.1 q.2.2).1 (nw_T q.2.1 q.2.2).2.1 (nw_T q.2.1 q.2.2).2.2.1 ∈ nw_tb
set_option maxRecDepth 20000 in
theorem nw_fl0 : nw_flOK ((0, 7), (0, 0)) := ⟨by decide, by decide, nw_in (i := 189) rfl rfl⟩
set_option maxRecDepth 20000 in
theorem nw_fl1 : nw_flOK ((0, 13), (0, 2)) := ⟨by decide, by decide, nw_in (i := 192) rfl rfl⟩
set_option maxRecDepth 20000 in
theorem nw_fl2 : nw_flOK ((0, 17), (0, 3)) := ⟨by decide, by decide, nw_in (i := 194) rfl rfl⟩
set_option maxRecDepth 20000 in
theorem nw_fl3 : nw_flOK ((0, 20), (0, 4)) := ⟨by decide, by decide, nw_in (i := 196) rfl rfl⟩
set_option maxRecDepth 20000 in
theorem nw_fl4 : nw_flOK ((0, 23), (0, 5)) := ⟨by decide, by decide, nw_in (i := 198) rfl rfl⟩
set_option maxRecDepth 20000 in
theorem nw_fl5 : nw_flOK ((1, 11), (1, 0)) := ⟨by decide, by decide, nw_in (i := 125) rfl rfl⟩
set_option maxRecDepth 20000 in
theorem nw_fl6 : nw_flOK ((1, 17), (1, 1)) := ⟨by decide, by decide, nw_in (i := 126) rfl rfl⟩
set_option maxRecDepth 20000 in
theorem nw_fl7 : nw_flOK ((2, 9), (2, 0)) := ⟨by decide, by decide, nw_in (i := 78) rfl rfl⟩
set_option maxRecDepth 20000 in
theorem nw_fl8 : nw_flOK ((2, 15), (2, 1)) := ⟨by decide, by decide, nw_in (i := 81) rfl rfl⟩
set_option maxRecDepth 20000 in
theorem nw_fl9 : nw_flOK ((2, 18), (2, 2)) := ⟨by decide, by decide, nw_in (i := 83) rfl rfl⟩
set_option maxRecDepth 20000 in
theorem nw_fl10 : nw_flOK ((3, 9), (3, 3)) := ⟨by decide, by decide, nw_in (i := 105) rfl rfl⟩
set_option maxRecDepth 20000 in
theorem nw_fl11 : nw_flOK ((3, 15), (3, 0)) := ⟨by decide, by decide, nw_in (i := 98) rfl rfl⟩
set_option maxRecDepth 20000 in
theorem nw_fl12 : nw_flOK ((3, 18), (3, 1)) := ⟨by decide, by decide, nw_in (i := 101) rfl rfl⟩
set_option maxRecDepth 20000 in
theorem nw_fl13 : nw_flOK ((3, 21), (3, 2)) := ⟨by decide, by decide, nw_in (i := 103) rfl rfl⟩
set_option maxRecDepth 20000 in
theorem nw_fl14 : nw_flOK ((4, 12), (4, 0)) := ⟨by decide, by decide, nw_in (i := 133) rfl rfl⟩
set_option maxRecDepth 20000 in
theorem nw_fl15 : nw_flOK ((4, 21), (4, 1)) := ⟨by decide, by decide, nw_in (i := 135) rfl rfl⟩
set_option maxRecDepth 20000 in
theorem nw_fl16 : nw_flOK ((4, 28), (4, 2)) := ⟨by decide, by decide, nw_in (i := 137) rfl rfl⟩
set_option maxRecDepth 20000 in
theorem nw_fl17 : nw_flOK ((4, 32), (4, 3)) := ⟨by decide, by decide, nw_in (i := 139) rfl rfl⟩
set_option maxRecDepth 20000 in
theorem nw_fl18 : nw_flOK ((4, 36), (4, 4)) := ⟨by decide, by decide, nw_in (i := 141) rfl rfl⟩
set_option maxRecDepth 20000 in
theorem nw_fl19 : nw_flOK ((4, 41), (4, 5)) := ⟨by decide, by decide, nw_in (i := 143) rfl rfl⟩
set_option maxRecDepth 20000 in
theorem nw_fl20 : nw_flOK ((4, 44), (4, 6)) := ⟨by decide, by decide, nw_in (i := 145) rfl rfl⟩
set_option maxRecDepth 20000 in
theorem nw_fl21 : nw_flOK ((4, 47), (4, 7)) := ⟨by decide, by decide, nw_in (i := 147) rfl rfl⟩
set_option maxRecDepth 20000 in
theorem nw_fl22 : nw_flOK ((4, 50), (4, 8)) := ⟨by decide, by decide, nw_in (i := 149) rfl rfl⟩
set_option maxRecDepth 20000 in
theorem nw_fl23 : nw_flOK ((4, 56), (4, 9)) := ⟨by decide, by decide, nw_in (i := 151) rfl rfl⟩
set_option maxRecDepth 20000 in
theorem nw_fl24 : nw_flOK ((4, 61), (4, 10)) := ⟨by decide, by decide, nw_in (i := 153) rfl rfl⟩
set_option maxRecDepth 20000 in
theorem nw_fl25 : nw_flOK ((4, 65), (4, 11)) := ⟨by decide, by decide, nw_in (i := 155) rfl rfl⟩
set_option maxRecDepth 20000 in
theorem nw_fl26 : nw_flOK ((4, 84), (3, 0)) := ⟨by decide, by decide, nw_in (i := 99) rfl rfl⟩
set_option maxRecDepth 20000 in
theorem nw_fl27 : nw_flOK ((4, 94), (2, 0)) := ⟨by decide, by decide, nw_in (i := 79) rfl rfl⟩
set_option maxRecDepth 20000 in
theorem nw_fl28 : nw_flOK ((5, 11), (5, 0)) := ⟨by decide, by decide, nw_in (i := 67) rfl rfl⟩
set_option maxRecDepth 20000 in
theorem nw_fl29 : nw_flOK ((6, 18), (6, 0)) := ⟨by decide, by decide, nw_in (i := 213) rfl rfl⟩
set_option maxRecDepth 20000 in
theorem nw_fl30 : nw_flOK ((6, 24), (6, 1)) := ⟨by decide, by decide, nw_in (i := 214) rfl rfl⟩
set_option maxRecDepth 20000 in
theorem nw_fl31 : nw_flOK ((6, 33), (6, 2)) := ⟨by decide, by decide, nw_in (i := 215) rfl rfl⟩
set_option maxRecDepth 20000 in
theorem nw_fl32 : nw_flOK ((6, 38), (6, 3)) := ⟨by decide, by decide, nw_in (i := 216) rfl rfl⟩
set_option maxRecDepth 20000 in
theorem nw_fl33 : nw_flOK ((6, 56), (6, 4)) := ⟨by decide, by decide, nw_in (i := 217) rfl rfl⟩
set_option maxRecDepth 20000 in
theorem nw_fl34 : nw_flOK ((6, 59), (4, 3)) := ⟨by decide, by decide, nw_in (i := 140) rfl rfl⟩
set_option maxRecDepth 20000 in
theorem nw_fl35 : nw_flOK ((6, 66), (4, 8)) := ⟨by decide, by decide, nw_in (i := 150) rfl rfl⟩
set_option maxRecDepth 20000 in
theorem nw_fl36 : nw_flOK ((6, 69), (4, 9)) := ⟨by decide, by decide, nw_in (i := 152) rfl rfl⟩
set_option maxRecDepth 20000 in
theorem nw_fl37 : nw_flOK ((6, 85), (0, 1)) := ⟨by decide, by decide, nw_in (i := 191) rfl rfl⟩
set_option maxRecDepth 20000 in
theorem nw_fl38 : nw_flOK ((6, 94), (0, 0)) := ⟨by decide, by decide, nw_in (i := 190) rfl rfl⟩
set_option maxRecDepth 20000 in
theorem nw_fl39 : nw_flOK ((6, 97), (4, 2)) := ⟨by decide, by decide, nw_in (i := 138) rfl rfl⟩
set_option maxRecDepth 20000 in
theorem nw_fl40 : nw_flOK ((6, 107), (4, 1)) := ⟨by decide, by decide, nw_in (i := 136) rfl rfl⟩
set_option maxRecDepth 20000 in
theorem nw_fl41 : nw_flOK ((6, 120), (0, 4)) := ⟨by decide, by decide, nw_in (i := 197) rfl rfl⟩
set_option maxRecDepth 20000 in
theorem nw_fl42 : nw_flOK ((6, 144), (4, 7)) := ⟨by decide, by decide, nw_in (i := 148) rfl rfl⟩
set_option maxRecDepth 20000 in
theorem nw_fl43 : nw_flOK ((6, 147), (3, 1)) := ⟨by decide, by decide, nw_in (i := 102) rfl rfl⟩
set_option maxRecDepth 20000 in
theorem nw_fl44 : nw_flOK ((6, 153), (3, 3)) := ⟨by decide, by decide, nw_in (i := 106) rfl rfl⟩
set_option maxRecDepth 20000 in
theorem nw_fl45 : nw_flOK ((6, 159), (4, 10)) := ⟨by decide, by decide, nw_in (i := 154) rfl rfl⟩
set_option maxRecDepth 20000 in
theorem nw_fl46 : nw_flOK ((6, 162), (4, 11)) := ⟨by decide, by decide, nw_in (i := 156) rfl rfl⟩
set_option maxRecDepth 20000 in
theorem nw_fl47 : nw_flOK ((6, 165), (6, 5)) := ⟨by decide, by decide, nw_in (i := 218) rfl rfl⟩
set_option maxRecDepth 20000 in
theorem nw_fl48 : nw_flOK ((6, 208), (4, 4)) := ⟨by decide, by decide, nw_in (i := 142) rfl rfl⟩
set_option maxRecDepth 20000 in
theorem nw_fl49 : nw_flOK ((6, 214), (2, 0)) := ⟨by decide, by decide, nw_in (i := 80) rfl rfl⟩
set_option maxRecDepth 20000 in
theorem nw_fl50 : nw_flOK ((6, 217), (2, 1)) := ⟨by decide, by decide, nw_in (i := 82) rfl rfl⟩
set_option maxRecDepth 20000 in
theorem nw_fl51 : nw_flOK ((6, 220), (4, 0)) := ⟨by decide, by decide, nw_in (i := 134) rfl rfl⟩
set_option maxRecDepth 20000 in
theorem nw_fl52 : nw_flOK ((6, 229), (4, 6)) := ⟨by decide, by decide, nw_in (i := 146) rfl rfl⟩
set_option maxRecDepth 20000 in
theorem nw_fl53 : nw_flOK ((6, 232), (4, 5)) := ⟨by decide, by decide, nw_in (i := 144) rfl rfl⟩
set_option maxRecDepth 20000 in
theorem nw_fl54 : nw_flOK ((6, 246), (2, 2)) := ⟨by decide, by decide, nw_in (i := 84) rfl rfl⟩
set_option maxRecDepth 20000 in
theorem nw_fl55 : nw_flOK ((6, 249), (3, 0)) := ⟨by decide, by decide, nw_in (i := 100) rfl rfl⟩
set_option maxRecDepth 20000 in
theorem nw_fl56 : nw_flOK ((6, 252), (0, 3)) := ⟨by decide, by decide, nw_in (i := 195) rfl rfl⟩
set_option maxRecDepth 20000 in
theorem nw_fl57 : nw_flOK ((6, 255), (0, 2)) := ⟨by decide, by decide, nw_in (i := 193) rfl rfl⟩
set_option maxRecDepth 20000 in
theorem nw_fl58 : nw_flOK ((6, 261), (3, 2)) := ⟨by decide, by decide, nw_in (i := 104) rfl rfl⟩
set_option maxRecDepth 20000 in
theorem nw_fl59 : nw_flOK ((6, 273), (0, 5)) := ⟨by decide, by decide, nw_in (i := 199) rfl rfl⟩
set_option maxRecDepth 20000 in
theorem nw_fl60 : nw_flOK ((7, 7), (7, 4)) := ⟨by decide, by decide, nw_in (i := 545) rfl rfl⟩
set_option maxRecDepth 20000 in
theorem nw_fl61 : nw_flOK ((7, 13), (7, 5)) := ⟨by decide, by decide, nw_in (i := 546) rfl rfl⟩
set_option maxRecDepth 20000 in
theorem nw_fl62 : nw_flOK ((7, 17), (7, 6)) := ⟨by decide, by decide, nw_in (i := 547) rfl rfl⟩
set_option maxRecDepth 20000 in
theorem nw_fl63 : nw_flOK ((7, 20), (7, 7)) := ⟨by decide, by decide, nw_in (i := 548) rfl rfl⟩
set_option maxRecDepth 20000 in
theorem nw_fl64 : nw_flOK ((7, 23), (7, 8)) := ⟨by decide, by decide, nw_in (i := 549) rfl rfl⟩
set_option maxRecDepth 20000 in
theorem nw_fl65 : nw_flOK ((7, 26), (7, 9)) := ⟨by decide, by decide, nw_in (i := 550) rfl rfl⟩
set_option maxRecDepth 20000 in
theorem nw_fl66 : nw_flOK ((7, 30), (7, 10)) := ⟨by decide, by decide, nw_in (i := 551) rfl rfl⟩
set_option maxRecDepth 20000 in
theorem nw_fl67 : nw_flOK ((7, 33), (7, 11)) := ⟨by decide, by decide, nw_in (i := 552) rfl rfl⟩
set_option maxRecDepth 20000 in
theorem nw_fl68 : nw_flOK ((7, 36), (7, 12)) := ⟨by decide, by decide, nw_in (i := 553) rfl rfl⟩
set_option maxRecDepth 20000 in
theorem nw_fl69 : nw_flOK ((7, 39), (7, 13)) := ⟨by decide, by decide, nw_in (i := 554) rfl rfl⟩
set_option maxRecDepth 20000 in
theorem nw_fl70 : nw_flOK ((7, 42), (7, 14)) := ⟨by decide, by decide, nw_in (i := 555) rfl rfl⟩
set_option maxRecDepth 20000 in
theorem nw_fl71 : nw_flOK ((7, 45), (7, 15)) := ⟨by decide, by decide, nw_in (i := 556) rfl rfl⟩
set_option maxRecDepth 20000 in
theorem nw_fl72 : nw_flOK ((7, 48), (7, 16)) := ⟨by decide, by decide, nw_in (i := 557) rfl rfl⟩
set_option maxRecDepth 20000 in
theorem nw_fl73 : nw_flOK ((7, 51), (7, 17)) := ⟨by decide, by decide, nw_in (i := 558) rfl rfl⟩
set_option maxRecDepth 20000 in
theorem nw_fl74 : nw_flOK ((7, 54), (7, 18)) := ⟨by decide, by decide, nw_in (i := 559) rfl rfl⟩
set_option maxRecDepth 20000 in
theorem nw_fl75 : nw_flOK ((7, 57), (7, 19)) := ⟨by decide, by decide, nw_in (i := 560) rfl rfl⟩
set_option maxRecDepth 20000 in
theorem nw_fl76 : nw_flOK ((7, 60), (7, 20)) := ⟨by decide, by decide, nw_in (i := 561) rfl rfl⟩
set_option maxRecDepth 20000 in
theorem nw_fl77 : nw_flOK ((7, 63), (7, 21)) := ⟨by decide, by decide, nw_in (i := 562) rfl rfl⟩
set_option maxRecDepth 20000 in
theorem nw_fl78 : nw_flOK ((7, 66), (7, 22)) := ⟨by decide, by decide, nw_in (i := 563) rfl rfl⟩
set_option maxRecDepth 20000 in
theorem nw_fl79 : nw_flOK ((7, 69), (7, 23)) := ⟨by decide, by decide, nw_in (i := 564) rfl rfl⟩
set_option maxRecDepth 20000 in
theorem nw_fl80 : nw_flOK ((7, 72), (7, 24)) := ⟨by decide, by decide, nw_in (i := 565) rfl rfl⟩
set_option maxRecDepth 20000 in
theorem nw_fl81 : nw_flOK ((7, 75), (7, 25)) := ⟨by decide, by decide, nw_in (i := 566) rfl rfl⟩
set_option maxRecDepth 20000 in
theorem nw_fl82 : nw_flOK ((7, 78), (7, 26)) := ⟨by decide, by decide, nw_in (i := 567) rfl rfl⟩
set_option maxRecDepth 20000 in
theorem nw_fl83 : nw_flOK ((7, 81), (7, 27)) := ⟨by decide, by decide, nw_in (i := 568) rfl rfl⟩
set_option maxRecDepth 20000 in
theorem nw_fl84 : nw_flOK ((7, 84), (7, 0)) := ⟨by decide, by decide, nw_in (i := 541) rfl rfl⟩
set_option maxRecDepth 20000 in
theorem nw_fl85 : nw_flOK ((7, 88), (7, 1)) := ⟨by decide, by decide, nw_in (i := 542) rfl rfl⟩
set_option maxRecDepth 20000 in
theorem nw_fl86 : nw_flOK ((7, 118), (7, 2)) := ⟨by decide, by decide, nw_in (i := 543) rfl rfl⟩
set_option maxRecDepth 20000 in
theorem nw_fl87 : nw_flOK ((7, 128), (7, 3)) := ⟨by decide, by decide, nw_in (i := 544) rfl rfl⟩
set_option maxRecDepth 20000 in
theorem nw_fl_all : ∀ q ∈ nw_flT, nw_flOK q := List.forall_mem_cons.mpr ⟨nw_fl0, List.forall_mem_cons.mpr ⟨nw_fl1, List.forall_mem_cons.mpr ⟨nw_fl2, List.forall_mem_cons.mpr ⟨nw_fl3, List.forall_mem_cons.mpr ⟨nw_fl4, List.forall_mem_cons.mpr ⟨nw_fl5, List.forall_mem_cons.mpr ⟨nw_fl6, List.forall_mem_cons.mpr ⟨nw_fl7, List.forall_mem_cons.mpr ⟨nw_fl8, List.forall_mem_cons.mpr ⟨nw_fl9, List.forall_mem_cons.mpr ⟨nw_fl10, List.forall_mem_cons.mpr ⟨nw_fl11, List.forall_mem_cons.mpr ⟨nw_fl12, List.forall_mem_cons.mpr ⟨nw_fl13, List.forall_mem_cons.mpr ⟨nw_fl14, List.forall_mem_cons.mpr ⟨nw_fl15, List.forall_mem_cons.mpr ⟨nw_fl16, List.forall_mem_cons.mpr ⟨nw_fl17, List.forall_mem_cons.mpr ⟨nw_fl18, List.forall_mem_cons.mpr ⟨nw_fl19, List.forall_mem_cons.mpr ⟨nw_fl20, List.forall_mem_cons.mpr ⟨nw_fl21, List.forall_mem_cons.mpr ⟨nw_fl22, List.forall_mem_cons.mpr ⟨nw_fl23, List.forall_mem_cons.mpr ⟨nw_fl24, List.forall_mem_cons.mpr ⟨nw_fl25, List.forall_mem_cons.mpr ⟨nw_fl26, List.forall_mem_cons.mpr ⟨nw_fl27, List.forall_mem_cons.mpr ⟨nw_fl28, List.forall_mem_cons.mpr ⟨nw_fl29, List.forall_mem_cons.mpr ⟨nw_fl30, List.forall_mem_cons.mpr ⟨nw_fl31, List.forall_mem_cons.mpr ⟨nw_fl32, List.forall_mem_cons.mpr ⟨nw_fl33, List.forall_mem_cons.mpr ⟨nw_fl34, List.forall_mem_cons.mpr ⟨nw_fl35, List.forall_mem_cons.mpr ⟨nw_fl36, List.forall_mem_cons.mpr ⟨nw_fl37, List.forall_mem_cons.mpr ⟨nw_fl38, List.forall_mem_cons.mpr ⟨nw_fl39, List.forall_mem_cons.mpr ⟨nw_fl40, List.forall_mem_cons.mpr ⟨nw_fl41, List.forall_mem_cons.mpr ⟨nw_fl42, List.forall_mem_cons.mpr ⟨nw_fl43, List.forall_mem_cons.mpr ⟨nw_fl44, List.forall_mem_cons.mpr ⟨nw_fl45, List.forall_mem_cons.mpr ⟨nw_fl46, List.forall_mem_cons.mpr ⟨nw_fl47, List.forall_mem_cons.mpr ⟨nw_fl48, List.forall_mem_cons.mpr ⟨nw_fl49, List.forall_mem_cons.mpr ⟨nw_fl50, List.forall_mem_cons.mpr ⟨nw_fl51, List.forall_mem_cons.mpr ⟨nw_fl52, List.forall_mem_cons.mpr ⟨nw_fl53, List.forall_mem_cons.mpr ⟨nw_fl54, List.forall_mem_cons.mpr ⟨nw_fl55, List.forall_mem_cons.mpr ⟨nw_fl56, List.forall_mem_cons.mpr ⟨nw_fl57, List.forall_mem_cons.mpr ⟨nw_fl58, List.forall_mem_cons.mpr ⟨nw_fl59, List.forall_mem_cons.mpr ⟨nw_fl60, List.forall_mem_cons.mpr ⟨nw_fl61, List.forall_mem_cons.mpr ⟨nw_fl62, List.forall_mem_cons.mpr ⟨nw_fl63, List.forall_mem_cons.mpr ⟨nw_fl64, List.forall_mem_cons.mpr ⟨nw_fl65, List.forall_mem_cons.mpr ⟨nw_fl66, List.forall_mem_cons.mpr ⟨nw_fl67, List.forall_mem_cons.mpr ⟨nw_fl68, List.forall_mem_cons.mpr ⟨nw_fl69, List.forall_mem_cons.mpr ⟨nw_fl70, List.forall_mem_cons.mpr ⟨nw_fl71, List.forall_mem_cons.mpr ⟨nw_fl72, List.forall_mem_cons.mpr ⟨nw_fl73, List.forall_mem_cons.mpr ⟨nw_fl74, List.forall_mem_cons.mpr ⟨nw_fl75, List.forall_mem_cons.mpr ⟨nw_fl76, List.forall_mem_cons.mpr ⟨nw_fl77, List.forall_mem_cons.mpr ⟨nw_fl78, List.forall_mem_cons.mpr ⟨nw_fl79, List.forall_mem_cons.mpr ⟨nw_fl80, List.forall_mem_cons.mpr ⟨nw_fl81, List.forall_mem_cons.mpr ⟨nw_fl82, List.forall_mem_cons.mpr ⟨nw_fl83, List.forall_mem_cons.mpr ⟨nw_fl84, List.forall_mem_cons.mpr ⟨nw_fl85, List.forall_mem_cons.mpr ⟨nw_fl86, List.forall_mem_cons.mpr ⟨nw_fl87, fun _ h => absurd h List.not_mem_nil⟩⟩⟩⟩⟩⟩⟩⟩⟩⟩⟩⟩⟩⟩⟩⟩⟩⟩⟩⟩⟩⟩⟩⟩⟩⟩⟩⟩⟩⟩⟩⟩⟩⟩⟩⟩⟩⟩⟩⟩⟩⟩⟩⟩⟩⟩⟩⟩⟩⟩⟩⟩⟩⟩⟩⟩⟩⟩⟩⟩⟩⟩⟩⟩⟩⟩⟩⟩⟩⟩⟩⟩⟩⟩⟩⟩⟩⟩⟩⟩⟩⟩⟩⟩⟩⟩⟩⟩
set_option maxRecDepth 20000 in
theorem nw_fl_ok {o i c k : Nat} (h : nw_fl o i = some (c, k)) : c < 8 ∧ k < nw_N c ∧ Cond.fieldLink (nw_R o) i (nw_T c k).1 (nw_T c k).2.1 (nw_T c k).2.2.1 ∈ nw_tb := by
  unfold nw_fl at h
  cases hq : nw_flT.find? (fun q => q.1.1 == o && q.1.2 == i) with
  | none => rw [hq] at h; cases h
  | some q =>
    rw [hq] at h
    have h2 : q.2 = (c, k) := Option.some.inj h
    have h3 := nw_fl_all q (List.mem_of_find?_eq_some hq)
    have h4 := List.find?_some hq
    simp only [Bool.and_eq_true, beq_iff_eq] at h4
    unfold nw_flOK at h3
    rw [h2, h4.1, h4.2] at h3
    exact h3
def nw_cnT : List ((Nat × Nat) × Nat) := [((10, 7), 6), ((6, 22), 4), ((4, 9), 5), ((4, 18), 2), ((4, 25), 3), ((4, 54), 1), ((6, 31), 0), ((10, 18), 7)]
def nw_cn (o i : Nat) : Option Nat := (nw_cnT.find? (fun q => q.1.1 == o && q.1.2 == i)).map (fun q => q.2)
def nw_cnOK (q : (Nat × Nat) × Nat) : Prop := q.2 < 8 ∧ Cond.classLink (nw_R q.1.1) q.1.2 (nw_R q.2) ∈ nw_tb
set_option maxRecDepth 20000 in
theorem nw_cn_all : ∀ q ∈ nw_cnT, nw_cnOK q := List.forall_mem_cons.mpr ⟨(⟨by decide, nw_in (i := 40) rfl rfl⟩ : nw_cnOK ((10, 7), 6)), List.forall_mem_cons.mpr ⟨(⟨by decide, nw_in (i := 54) rfl rfl⟩ : nw_cnOK ((6, 22), 4)), List.forall_mem_cons.mpr ⟨(⟨by decide, nw_in (i := 61) rfl rfl⟩ : nw_cnOK ((4, 9), 5)), List.forall_mem_cons.mpr ⟨(⟨by decide, nw_in (i := 72) rfl rfl⟩ : nw_cnOK ((4, 18), 2)), List.forall_mem_cons.mpr ⟨(⟨by decide, nw_in (i := 92) rfl rfl⟩ : nw_cnOK ((4, 25), 3)), List.forall_mem_cons.mpr ⟨(⟨by decide, nw_in (i := 118) rfl rfl⟩ : nw_cnOK ((4, 54), 1)), List.forall_mem_cons.mpr ⟨(⟨by decide, nw_in (i := 182) rfl rfl⟩ : nw_cnOK ((6, 31), 0)), List.forall_mem_cons.mpr ⟨(⟨by decide, nw_in (i := 535) rfl rfl⟩ : nw_cnOK ((10, 18), 7)), fun _ h => absurd h List.not_mem_nil⟩⟩⟩⟩⟩⟩⟩⟩
set_option maxRecDepth 20000 in
theorem nw_cn_ok {o i c : Nat} (h : nw_cn o i = some c) : c < 8 ∧ Cond.classLink (nw_R o) i (nw_R c) ∈ nw_tb := by
  unfold nw_cn at h
  cases hq : nw_cnT.find? (fun q => q.1.1 == o && q.1.2 == i) with
  | none => rw [hq] at h; cases h
  | some q =>
    rw [hq] at h
    have h2 : q.2 = c := Option.some.inj h
    have h3 := nw_cn_all q (List.mem_of_find?_eq_some hq)
    have h4 := List.find?_some hq
    simp only [Bool.and_eq_true, beq_iff_eq] at h4
    unfold nw_cnOK at h3
    rw [h2, h4.1, h4.2] at h3
    exact h3
set_option maxRecDepth 20000 in
theorem nw_ac : Cond.arrayClass .int ∈ nw_tb ∧ Cond.arrayClass .long ∈ nw_tb ∧ Cond.arrayClass .boolean ∈ nw_tb := ⟨nw_in (i := 71) rfl rfl, nw_in (i := 132) rfl rfl, nw_in (i := 626) rfl rfl⟩
set_option maxRecDepth 20000 in
theorem nw_mna : Cond.classLink (nw_R 4) 39 ("[" ++ (FieldType.array .int).toString) ∈ nw_tb := by rw [show "[" ++ (FieldType.array .int).toString = "[[I" by decide +kernel]; exact nw_in (i := 116) rfl rfl
set_option maxRecDepth 20000 in
theorem nw_aow : Cond.arrayOver (.array .int) ∈ lw_tbl ∧ Cond.arrayOver (.object "NewsFlood$Server") ∈ lw_tbl ∧ Cond.arrayOver (.object "NewsFlood$Article") ∈ lw_tbl ∧ Cond.arrayOver (.object "NewsFlood$Backlog") ∈ lw_tbl := ⟨List.mem_of_getElem? (i := 117) rfl, List.mem_of_getElem? (i := 55) rfl, List.mem_of_getElem? (i := 183) rfl, List.mem_of_getElem? (i := 119) rfl⟩
set_option maxRecDepth 20000 in
theorem nw_oi : Cond.instanceMethod objectInit ∈ nw_tb ∧ Cond.code objectInit ⟨#[0xb1]⟩ 1 none ∈ nw_tb := ⟨nw_in (i := 46) rfl rfl, nw_in (i := 47) rfl rfl⟩
abbrev nw_CE : Type := (Nat × Nat) × (nw_M × Nat)
def nw_caOK (q : nw_CE) : Prop := nw_mok q.2.1 ∧ Cond.methodLink (nw_R q.1.1) q.1.2 (nw_y q.2.1) ∈ nw_tb ∧ (parseMethodDescriptor (nw_y q.2.1).desc).map (fun d => d.parameters.length) = some (nw_np q.2.1) ∧ (q.2.2 = 0 → Cond.instanceMethod (nw_y q.2.1) ∈ nw_tb ∧ Cond.selects (nw_R (nw_on q.2.1)) (nw_y q.2.1) (nw_y q.2.1) ∈ nw_tb ∧ nw_on q.2.1 < 8) ∧ (q.2.2 = 1 → Cond.static (nw_y q.2.1) ∈ nw_tb) ∧ (q.2.2 = 2 → Cond.instanceMethod (nw_y q.2.1) ∈ nw_tb ∧ (nw_y q.2.1).name = "<init>" ∧ nw_rt q.2.1 = none)
set_option maxRecDepth 20000 in
theorem nw_ca0 : nw_caOK ((2, 22), (mEn_isFull, 0)) := ⟨mEn_isFull_ok, nw_in (i := 364) rfl rfl, by decide +kernel, fun _ => ⟨nw_in (i := 324) rfl rfl, nw_in (i := 325) rfl rfl, by decide⟩, fun h => absurd h (by decide), fun h => absurd h (by decide)⟩
set_option maxRecDepth 20000 in
theorem nw_ca1 : nw_caOK ((2, 26), (mEn_knows, 0)) := ⟨mEn_knows_ok, nw_in (i := 440) rfl rfl, by decide +kernel, fun _ => ⟨nw_in (i := 308) rfl rfl, nw_in (i := 309) rfl rfl, by decide⟩, fun h => absurd h (by decide), fun h => absurd h (by decide)⟩
set_option maxRecDepth 20000 in
theorem nw_ca2 : nw_caOK ((2, 30), (mEn_holds, 0)) := ⟨mEn_holds_ok, nw_in (i := 441) rfl rfl, by decide +kernel, fun _ => ⟨nw_in (i := 399) rfl rfl, nw_in (i := 400) rfl rfl, by decide⟩, fun h => absurd h (by decide), fun h => absurd h (by decide)⟩
set_option maxRecDepth 20000 in
theorem nw_ca3 : nw_caOK ((3, 24), (mIn_open, 0)) := ⟨mIn_open_ok, nw_in (i := 377) rfl rfl, by decide +kernel, fun _ => ⟨nw_in (i := 341) rfl rfl, nw_in (i := 342) rfl rfl, by decide⟩, fun h => absurd h (by decide), fun h => absurd h (by decide)⟩
set_option maxRecDepth 20000 in
theorem nw_ca4 : nw_caOK ((4, 11), (mSp_init, 2)) := ⟨mSp_init_ok, nw_in (i := 63) rfl rfl, by decide +kernel, fun h => absurd h (by decide), fun h => absurd h (by decide), fun _ => ⟨nw_in (i := 64) rfl rfl, rfl, rfl⟩⟩
set_option maxRecDepth 20000 in
theorem nw_ca5 : nw_caOK ((4, 20), (mEn_init, 2)) := ⟨mEn_init_ok, nw_in (i := 74) rfl rfl, by decide +kernel, fun h => absurd h (by decide), fun h => absurd h (by decide), fun _ => ⟨nw_in (i := 75) rfl rfl, rfl, rfl⟩⟩
set_option maxRecDepth 20000 in
theorem nw_ca6 : nw_caOK ((4, 27), (mIn_init, 2)) := ⟨mIn_init_ok, nw_in (i := 94) rfl rfl, by decide +kernel, fun h => absurd h (by decide), fun h => absurd h (by decide), fun _ => ⟨nw_in (i := 95) rfl rfl, rfl, rfl⟩⟩
set_option maxRecDepth 20000 in
theorem nw_ca7 : nw_caOK ((4, 60), (mBa_init, 2)) := ⟨mBa_init_ok, nw_in (i := 121) rfl rfl, by decide +kernel, fun h => absurd h (by decide), fun h => absurd h (by decide), fun _ => ⟨nw_in (i := 122) rfl rfl, rfl, rfl⟩⟩
set_option maxRecDepth 20000 in
theorem nw_ca8 : nw_caOK ((4, 68), (mEn_isFull, 0)) := ⟨mEn_isFull_ok, nw_in (i := 323) rfl rfl, by decide +kernel, fun _ => ⟨nw_in (i := 324) rfl rfl, nw_in (i := 325) rfl rfl, by decide⟩, fun h => absurd h (by decide), fun h => absurd h (by decide)⟩
set_option maxRecDepth 20000 in
theorem nw_ca9 : nw_caOK ((4, 72), (mSp_placeFor, 0)) := ⟨mSp_placeFor_ok, nw_in (i := 327) rfl rfl, by decide +kernel, fun _ => ⟨nw_in (i := 328) rfl rfl, nw_in (i := 329) rfl rfl, by decide⟩, fun h => absurd h (by decide), fun h => absurd h (by decide)⟩
set_option maxRecDepth 20000 in
theorem nw_ca10 : nw_caOK ((4, 76), (mSp_take, 0)) := ⟨mSp_take_ok, nw_in (i := 335) rfl rfl, by decide +kernel, fun _ => ⟨nw_in (i := 336) rfl rfl, nw_in (i := 337) rfl rfl, by decide⟩, fun h => absurd h (by decide), fun h => absurd h (by decide)⟩
set_option maxRecDepth 20000 in
theorem nw_ca11 : nw_caOK ((4, 80), (mIn_open, 0)) := ⟨mIn_open_ok, nw_in (i := 340) rfl rfl, by decide +kernel, fun _ => ⟨nw_in (i := 341) rfl rfl, nw_in (i := 342) rfl rfl, by decide⟩, fun h => absurd h (by decide), fun h => absurd h (by decide)⟩
set_option maxRecDepth 20000 in
theorem nw_ca12 : nw_caOK ((4, 87), (mSp_release, 0)) := ⟨mSp_release_ok, nw_in (i := 406) rfl rfl, by decide +kernel, fun _ => ⟨nw_in (i := 407) rfl rfl, nw_in (i := 408) rfl rfl, by decide⟩, fun h => absurd h (by decide), fun h => absurd h (by decide)⟩
set_option maxRecDepth 20000 in
theorem nw_ca13 : nw_caOK ((4, 91), (mIn_close, 0)) := ⟨mIn_close_ok, nw_in (i := 419) rfl rfl, by decide +kernel, fun _ => ⟨nw_in (i := 374) rfl rfl, nw_in (i := 375) rfl rfl, by decide⟩, fun h => absurd h (by decide), fun h => absurd h (by decide)⟩
set_option maxRecDepth 20000 in
theorem nw_ca14 : nw_caOK ((4, 97), (mBa_remove, 0)) := ⟨mBa_remove_ok, nw_in (i := 410) rfl rfl, by decide +kernel, fun _ => ⟨nw_in (i := 353) rfl rfl, nw_in (i := 354) rfl rfl, by decide⟩, fun h => absurd h (by decide), fun h => absurd h (by decide)⟩
set_option maxRecDepth 20000 in
theorem nw_ca15 : nw_caOK ((4, 100), (mSe_nextNumber, 0)) := ⟨mSe_nextNumber_ok, nw_in (i := 498) rfl rfl, by decide +kernel, fun _ => ⟨nw_in (i := 451) rfl rfl, nw_in (i := 452) rfl rfl, by decide⟩, fun h => absurd h (by decide), fun h => absurd h (by decide)⟩
set_option maxRecDepth 20000 in
theorem nw_ca16 : nw_caOK ((4, 104), (mSe_countNumbers, 0)) := ⟨mSe_countNumbers_ok, nw_in (i := 458) rfl rfl, by decide +kernel, fun _ => ⟨nw_in (i := 459) rfl rfl, nw_in (i := 460) rfl rfl, by decide⟩, fun h => absurd h (by decide), fun h => absurd h (by decide)⟩
set_option maxRecDepth 20000 in
theorem nw_ca17 : nw_caOK ((5, 15), (mSp_placeFor, 0)) := ⟨mSp_placeFor_ok, nw_in (i := 339) rfl rfl, by decide +kernel, fun _ => ⟨nw_in (i := 328) rfl rfl, nw_in (i := 329) rfl rfl, by decide⟩, fun h => absurd h (by decide), fun h => absurd h (by decide)⟩
set_option maxRecDepth 20000 in
theorem nw_ca18 : nw_caOK ((6, 28), (mSe_init, 2)) := ⟨mSe_init_ok, nw_in (i := 57) rfl rfl, by decide +kernel, fun h => absurd h (by decide), fun h => absurd h (by decide), fun _ => ⟨nw_in (i := 58) rfl rfl, rfl, rfl⟩⟩
set_option maxRecDepth 20000 in
theorem nw_ca19 : nw_caOK ((6, 37), (mAr_init, 2)) := ⟨mAr_init_ok, nw_in (i := 185) rfl rfl, by decide +kernel, fun h => absurd h (by decide), fun h => absurd h (by decide), fun _ => ⟨nw_in (i := 186) rfl rfl, rfl, rfl⟩⟩
set_option maxRecDepth 20000 in
theorem nw_ca20 : nw_caOK ((6, 42), (mNf_isServer, 0)) := ⟨mNf_isServer_ok, nw_in (i := 236) rfl rfl, by decide +kernel, fun _ => ⟨nw_in (i := 238) rfl rfl, nw_in (i := 0) rfl rfl, by decide⟩, fun h => absurd h (by decide), fun h => absurd h (by decide)⟩
set_option maxRecDepth 20000 in
theorem nw_ca21 : nw_caOK ((6, 46), (mTe_isName, 1)) := ⟨mTe_isName_ok, nw_in (i := 240) rfl rfl, by decide +kernel, fun h => absurd h (by decide), fun _ => nw_in (i := 241) rfl rfl, fun h => absurd h (by decide)⟩
set_option maxRecDepth 20000 in
theorem nw_ca22 : nw_caOK ((6, 52), (mNf_placeOfGroup, 0)) := ⟨mNf_placeOfGroup_ok, nw_in (i := 258) rfl rfl, by decide +kernel, fun _ => ⟨nw_in (i := 260) rfl rfl, nw_in (i := 1) rfl rfl, by decide⟩, fun h => absurd h (by decide), fun h => absurd h (by decide)⟩
set_option maxRecDepth 20000 in
theorem nw_ca23 : nw_caOK ((6, 63), (mTe_isPattern, 1)) := ⟨mTe_isPattern_ok, nw_in (i := 266) rfl rfl, by decide +kernel, fun h => absurd h (by decide), fun _ => nw_in (i := 267) rfl rfl, fun h => absurd h (by decide)⟩
set_option maxRecDepth 20000 in
theorem nw_ca24 : nw_caOK ((6, 73), (mBa_clear, 0)) := ⟨mBa_clear_ok, nw_in (i := 269) rfl rfl, by decide +kernel, fun _ => ⟨nw_in (i := 270) rfl rfl, nw_in (i := 271) rfl rfl, by decide⟩, fun h => absurd h (by decide), fun h => absurd h (by decide)⟩
set_option maxRecDepth 20000 in
theorem nw_ca25 : nw_caOK ((6, 78), (mTe_patternMatches, 1)) := ⟨mTe_patternMatches_ok, nw_in (i := 277) rfl rfl, by decide +kernel, fun h => absurd h (by decide), fun _ => nw_in (i := 278) rfl rfl, fun h => absurd h (by decide)⟩
set_option maxRecDepth 20000 in
theorem nw_ca26 : nw_caOK ((6, 82), (mNf_isId, 1)) := ⟨mNf_isId_ok, nw_in (i := 291) rfl rfl, by decide +kernel, fun h => absurd h (by decide), fun _ => nw_in (i := 292) rfl rfl, fun h => absurd h (by decide)⟩
set_option maxRecDepth 20000 in
theorem nw_ca27 : nw_caOK ((6, 90), (mAr_put, 0)) := ⟨mAr_put_ok, nw_in (i := 295) rfl rfl, by decide +kernel, fun _ => ⟨nw_in (i := 296) rfl rfl, nw_in (i := 297) rfl rfl, by decide⟩, fun h => absurd h (by decide), fun h => absurd h (by decide)⟩
set_option maxRecDepth 20000 in
theorem nw_ca28 : nw_caOK ((6, 101), (mIn_isOpen, 0)) := ⟨mIn_isOpen_ok, nw_in (i := 303) rfl rfl, by decide +kernel, fun _ => ⟨nw_in (i := 304) rfl rfl, nw_in (i := 305) rfl rfl, by decide⟩, fun h => absurd h (by decide), fun h => absurd h (by decide)⟩
set_option maxRecDepth 20000 in
theorem nw_ca29 : nw_caOK ((6, 111), (mEn_knows, 0)) := ⟨mEn_knows_ok, nw_in (i := 307) rfl rfl, by decide +kernel, fun _ => ⟨nw_in (i := 308) rfl rfl, nw_in (i := 309) rfl rfl, by decide⟩, fun h => absurd h (by decide), fun h => absurd h (by decide)⟩
set_option maxRecDepth 20000 in
theorem nw_ca30 : nw_caOK ((6, 116), (mNf_canUse, 0)) := ⟨mNf_canUse_ok, nw_in (i := 311) rfl rfl, by decide +kernel, fun _ => ⟨nw_in (i := 313) rfl rfl, nw_in (i := 2) rfl rfl, by decide⟩, fun h => absurd h (by decide), fun h => absurd h (by decide)⟩
set_option maxRecDepth 20000 in
theorem nw_ca31 : nw_caOK ((6, 123), (mSe_lacksRoom, 0)) := ⟨mSe_lacksRoom_ok, nw_in (i := 319) rfl rfl, by decide +kernel, fun _ => ⟨nw_in (i := 320) rfl rfl, nw_in (i := 321) rfl rfl, by decide⟩, fun h => absurd h (by decide), fun h => absurd h (by decide)⟩
set_option maxRecDepth 20000 in
theorem nw_ca32 : nw_caOK ((6, 126), (mSe_beginIntake, 0)) := ⟨mSe_beginIntake_ok, nw_in (i := 331) rfl rfl, by decide +kernel, fun _ => ⟨nw_in (i := 332) rfl rfl, nw_in (i := 333) rfl rfl, by decide⟩, fun h => absurd h (by decide), fun h => absurd h (by decide)⟩
set_option maxRecDepth 20000 in
theorem nw_ca33 : nw_caOK ((6, 129), (mBa_at, 0)) := ⟨mBa_at_ok, nw_in (i := 348) rfl rfl, by decide +kernel, fun _ => ⟨nw_in (i := 349) rfl rfl, nw_in (i := 350) rfl rfl, by decide⟩, fun h => absurd h (by decide), fun h => absurd h (by decide)⟩
set_option maxRecDepth 20000 in
theorem nw_ca34 : nw_caOK ((6, 133), (mBa_remove, 0)) := ⟨mBa_remove_ok, nw_in (i := 352) rfl rfl, by decide +kernel, fun _ => ⟨nw_in (i := 353) rfl rfl, nw_in (i := 354) rfl rfl, by decide⟩, fun h => absurd h (by decide), fun h => absurd h (by decide)⟩
set_option maxRecDepth 20000 in
theorem nw_ca35 : nw_caOK ((6, 136), (mNf_untilOf, 0)) := ⟨mNf_untilOf_ok, nw_in (i := 356) rfl rfl, by decide +kernel, fun _ => ⟨nw_in (i := 358) rfl rfl, nw_in (i := 3) rfl rfl, by decide⟩, fun h => absurd h (by decide), fun h => absurd h (by decide)⟩
set_option maxRecDepth 20000 in
theorem nw_ca36 : nw_caOK ((6, 140), (mEn_enter, 0)) := ⟨mEn_enter_ok, nw_in (i := 360) rfl rfl, by decide +kernel, fun _ => ⟨nw_in (i := 361) rfl rfl, nw_in (i := 362) rfl rfl, by decide⟩, fun h => absurd h (by decide), fun h => absurd h (by decide)⟩
set_option maxRecDepth 20000 in
theorem nw_ca37 : nw_caOK ((6, 150), (mNf_fileIntake, 0)) := ⟨mNf_fileIntake_ok, nw_in (i := 369) rfl rfl, by decide +kernel, fun _ => ⟨nw_in (i := 371) rfl rfl, nw_in (i := 4) rfl rfl, by decide⟩, fun h => absurd h (by decide), fun h => absurd h (by decide)⟩
set_option maxRecDepth 20000 in
theorem nw_ca38 : nw_caOK ((6, 156), (mSe_loseIntake, 0)) := ⟨mSe_loseIntake_ok, nw_in (i := 415) rfl rfl, by decide +kernel, fun _ => ⟨nw_in (i := 416) rfl rfl, nw_in (i := 417) rfl rfl, by decide⟩, fun h => absurd h (by decide), fun h => absurd h (by decide)⟩
set_option maxRecDepth 20000 in
theorem nw_ca39 : nw_caOK ((6, 168), (mEn_holds, 0)) := ⟨mEn_holds_ok, nw_in (i := 398) rfl rfl, by decide +kernel, fun _ => ⟨nw_in (i := 399) rfl rfl, nw_in (i := 400) rfl rfl, by decide⟩, fun h => absurd h (by decide), fun h => absurd h (by decide)⟩
set_option maxRecDepth 20000 in
theorem nw_ca40 : nw_caOK ((6, 171), (mSe_takeOldNumbers, 0)) := ⟨mSe_takeOldNumbers_ok, nw_in (i := 428) rfl rfl, by decide +kernel, fun _ => ⟨nw_in (i := 429) rfl rfl, nw_in (i := 430) rfl rfl, by decide⟩, fun h => absurd h (by decide), fun h => absurd h (by decide)⟩
set_option maxRecDepth 20000 in
theorem nw_ca41 : nw_caOK ((6, 175), (mSe_hasNumber, 0)) := ⟨mSe_hasNumber_ok, nw_in (i := 432) rfl rfl, by decide +kernel, fun _ => ⟨nw_in (i := 433) rfl rfl, nw_in (i := 434) rfl rfl, by decide⟩, fun h => absurd h (by decide), fun h => absurd h (by decide)⟩
set_option maxRecDepth 20000 in
theorem nw_ca42 : nw_caOK ((6, 178), (mSe_removeArticle, 0)) := ⟨mSe_removeArticle_ok, nw_in (i := 402) rfl rfl, by decide +kernel, fun _ => ⟨nw_in (i := 403) rfl rfl, nw_in (i := 404) rfl rfl, by decide⟩, fun h => absurd h (by decide), fun h => absurd h (by decide)⟩
set_option maxRecDepth 20000 in
theorem nw_ca43 : nw_caOK ((6, 181), (mEn_dropOlderThan, 0)) := ⟨mEn_dropOlderThan_ok, nw_in (i := 436) rfl rfl, by decide +kernel, fun _ => ⟨nw_in (i := 437) rfl rfl, nw_in (i := 438) rfl rfl, by decide⟩, fun h => absurd h (by decide), fun h => absurd h (by decide)⟩
set_option maxRecDepth 20000 in
theorem nw_ca44 : nw_caOK ((6, 184), (mNf_carries, 0)) := ⟨mNf_carries_ok, nw_in (i := 446) rfl rfl, by decide +kernel, fun _ => ⟨nw_in (i := 448) rfl rfl, nw_in (i := 8) rfl rfl, by decide⟩, fun h => absurd h (by decide), fun h => absurd h (by decide)⟩
set_option maxRecDepth 20000 in
theorem nw_ca45 : nw_caOK ((6, 188), (mSe_nextNumber, 0)) := ⟨mSe_nextNumber_ok, nw_in (i := 450) rfl rfl, by decide +kernel, fun _ => ⟨nw_in (i := 451) rfl rfl, nw_in (i := 452) rfl rfl, by decide⟩, fun h => absurd h (by decide), fun h => absurd h (by decide)⟩
set_option maxRecDepth 20000 in
theorem nw_ca46 : nw_caOK ((6, 191), (mSe_countAll, 0)) := ⟨mSe_countAll_ok, nw_in (i := 454) rfl rfl, by decide +kernel, fun _ => ⟨nw_in (i := 455) rfl rfl, nw_in (i := 456) rfl rfl, by decide⟩, fun h => absurd h (by decide), fun h => absurd h (by decide)⟩
set_option maxRecDepth 20000 in
theorem nw_ca47 : nw_caOK ((6, 194), (mNf_hasSelected, 0)) := ⟨mNf_hasSelected_ok, nw_in (i := 466) rfl rfl, by decide +kernel, fun _ => ⟨nw_in (i := 468) rfl rfl, nw_in (i := 9) rfl rfl, by decide⟩, fun h => absurd h (by decide), fun h => absurd h (by decide)⟩
set_option maxRecDepth 20000 in
theorem nw_ca48 : nw_caOK ((6, 197), (mSe_previousNumber, 0)) := ⟨mSe_previousNumber_ok, nw_in (i := 470) rfl rfl, by decide +kernel, fun _ => ⟨nw_in (i := 471) rfl rfl, nw_in (i := 472) rfl rfl, by decide⟩, fun h => absurd h (by decide), fun h => absurd h (by decide)⟩
set_option maxRecDepth 20000 in
theorem nw_ca49 : nw_caOK ((6, 200), (mNf_goTo, 1)) := ⟨mNf_goTo_ok, nw_in (i := 474) rfl rfl, by decide +kernel, fun h => absurd h (by decide), fun _ => nw_in (i := 475) rfl rfl, fun h => absurd h (by decide)⟩
set_option maxRecDepth 20000 in
theorem nw_ca50 : nw_caOK ((6, 204), (mSe_countNumbers, 0)) := ⟨mSe_countNumbers_ok, nw_in (i := 489) rfl rfl, by decide +kernel, fun _ => ⟨nw_in (i := 459) rfl rfl, nw_in (i := 460) rfl rfl, by decide⟩, fun h => absurd h (by decide), fun h => absurd h (by decide)⟩
set_option maxRecDepth 20000 in
theorem nw_ca51 : nw_caOK ((6, 211), (mSe_lowestOrNext, 0)) := ⟨mSe_lowestOrNext_ok, nw_in (i := 494) rfl rfl, by decide +kernel, fun _ => ⟨nw_in (i := 495) rfl rfl, nw_in (i := 496) rfl rfl, by decide⟩, fun h => absurd h (by decide), fun h => absurd h (by decide)⟩
set_option maxRecDepth 20000 in
theorem nw_ca52 : nw_caOK ((6, 224), (mSp_firstBlockOf, 0)) := ⟨mSp_firstBlockOf_ok, nw_in (i := 507) rfl rfl, by decide +kernel, fun _ => ⟨nw_in (i := 508) rfl rfl, nw_in (i := 509) rfl rfl, by decide⟩, fun h => absurd h (by decide), fun h => absurd h (by decide)⟩
set_option maxRecDepth 20000 in
theorem nw_ca53 : nw_caOK ((6, 236), (mEn_countOf, 0)) := ⟨mEn_countOf_ok, nw_in (i := 519) rfl rfl, by decide +kernel, fun _ => ⟨nw_in (i := 520) rfl rfl, nw_in (i := 521) rfl rfl, by decide⟩, fun h => absurd h (by decide), fun h => absurd h (by decide)⟩
set_option maxRecDepth 20000 in
theorem nw_ca54 : nw_caOK ((6, 239), (mSp_countFree, 0)) := ⟨mSp_countFree_ok, nw_in (i := 523) rfl rfl, by decide +kernel, fun _ => ⟨nw_in (i := 524) rfl rfl, nw_in (i := 525) rfl rfl, by decide⟩, fun h => absurd h (by decide), fun h => absurd h (by decide)⟩
set_option maxRecDepth 20000 in
theorem nw_ca55 : nw_caOK ((6, 243), (mSp_longestFree, 0)) := ⟨mSp_longestFree_ok, nw_in (i := 527) rfl rfl, by decide +kernel, fun _ => ⟨nw_in (i := 528) rfl rfl, nw_in (i := 529) rfl rfl, by decide⟩, fun h => absurd h (by decide), fun h => absurd h (by decide)⟩
set_option maxRecDepth 20000 in
theorem nw_ca56 : nw_caOK ((6, 258), (mSe_carriesSome, 0)) := ⟨mSe_carriesSome_ok, nw_in (i := 315) rfl rfl, by decide +kernel, fun _ => ⟨nw_in (i := 316) rfl rfl, nw_in (i := 317) rfl rfl, by decide⟩, fun h => absurd h (by decide), fun h => absurd h (by decide)⟩
set_option maxRecDepth 20000 in
theorem nw_ca57 : nw_caOK ((6, 263), (mIn_close, 0)) := ⟨mIn_close_ok, nw_in (i := 373) rfl rfl, by decide +kernel, fun _ => ⟨nw_in (i := 374) rfl rfl, nw_in (i := 375) rfl rfl, by decide⟩, fun h => absurd h (by decide), fun h => absurd h (by decide)⟩
set_option maxRecDepth 20000 in
theorem nw_ca58 : nw_caOK ((6, 266), (mSe_hold, 0)) := ⟨mSe_hold_ok, nw_in (i := 378) rfl rfl, by decide +kernel, fun _ => ⟨nw_in (i := 379) rfl rfl, nw_in (i := 380) rfl rfl, by decide⟩, fun h => absurd h (by decide), fun h => absurd h (by decide)⟩
set_option maxRecDepth 20000 in
theorem nw_ca59 : nw_caOK ((6, 269), (mNf_feedOthers, 0)) := ⟨mNf_feedOthers_ok, nw_in (i := 382) rfl rfl, by decide +kernel, fun _ => ⟨nw_in (i := 384) rfl rfl, nw_in (i := 5) rfl rfl, by decide⟩, fun h => absurd h (by decide), fun h => absurd h (by decide)⟩
set_option maxRecDepth 20000 in
theorem nw_ca60 : nw_caOK ((6, 276), (mNf_cancelAt, 0)) := ⟨mNf_cancelAt_ok, nw_in (i := 394) rfl rfl, by decide +kernel, fun _ => ⟨nw_in (i := 396) rfl rfl, nw_in (i := 7) rfl rfl, by decide⟩, fun h => absurd h (by decide), fun h => absurd h (by decide)⟩
set_option maxRecDepth 20000 in
theorem nw_ca61 : nw_caOK ((6, 279), (mNf_wants, 0)) := ⟨mNf_wants_ok, nw_in (i := 386) rfl rfl, by decide +kernel, fun _ => ⟨nw_in (i := 388) rfl rfl, nw_in (i := 6) rfl rfl, by decide⟩, fun h => absurd h (by decide), fun h => absurd h (by decide)⟩
set_option maxRecDepth 20000 in
theorem nw_ca62 : nw_caOK ((6, 283), (mBa_append, 0)) := ⟨mBa_append_ok, nw_in (i := 390) rfl rfl, by decide +kernel, fun _ => ⟨nw_in (i := 391) rfl rfl, nw_in (i := 392) rfl rfl, by decide⟩, fun h => absurd h (by decide), fun h => absurd h (by decide)⟩
set_option maxRecDepth 20000 in
theorem nw_ca63 : nw_caOK ((6, 286), (mSe_idWithNumber, 0)) := ⟨mSe_idWithNumber_ok, nw_in (i := 477) rfl rfl, by decide +kernel, fun _ => ⟨nw_in (i := 478) rfl rfl, nw_in (i := 479) rfl rfl, by decide⟩, fun h => absurd h (by decide), fun h => absurd h (by decide)⟩
set_option maxRecDepth 20000 in
theorem nw_ca64 : nw_caOK ((7, 91), (mMo_at, 1)) := ⟨mMo_at_ok, nw_in (i := 634) rfl rfl, by decide +kernel, fun h => absurd h (by decide), fun _ => nw_in (i := 635) rfl rfl, fun h => absurd h (by decide)⟩
set_option maxRecDepth 20000 in
theorem nw_ca65 : nw_caOK ((7, 95), (mMo_length, 1)) := ⟨mMo_length_ok, nw_in (i := 631) rfl rfl, by decide +kernel, fun h => absurd h (by decide), fun _ => nw_in (i := 632) rfl rfl, fun h => absurd h (by decide)⟩
set_option maxRecDepth 20000 in
theorem nw_ca66 : nw_caOK ((7, 99), (mMo_fits, 1)) := ⟨mMo_fits_ok, nw_in (i := 637) rfl rfl, by decide +kernel, fun h => absurd h (by decide), fun _ => nw_in (i := 638) rfl rfl, fun h => absurd h (by decide)⟩
set_option maxRecDepth 20000 in
theorem nw_ca67 : nw_caOK ((7, 103), (mMo_isId, 1)) := ⟨mMo_isId_ok, nw_in (i := 656) rfl rfl, by decide +kernel, fun h => absurd h (by decide), fun _ => nw_in (i := 657) rfl rfl, fun h => absurd h (by decide)⟩
set_option maxRecDepth 20000 in
theorem nw_ca68 : nw_caOK ((7, 107), (mMo_free, 0)) := ⟨mMo_free_ok, nw_in (i := 688) rfl rfl, by decide +kernel, fun _ => ⟨nw_in (i := 690) rfl rfl, nw_in (i := 17) rfl rfl, by decide⟩, fun h => absurd h (by decide), fun h => absurd h (by decide)⟩
set_option maxRecDepth 20000 in
theorem nw_ca69 : nw_caOK ((7, 111), (mMo_run, 0)) := ⟨mMo_run_ok, nw_in (i := 684) rfl rfl, by decide +kernel, fun _ => ⟨nw_in (i := 686) rfl rfl, nw_in (i := 16) rfl rfl, by decide⟩, fun h => absurd h (by decide), fun h => absurd h (by decide)⟩
set_option maxRecDepth 20000 in
theorem nw_ca70 : nw_caOK ((7, 115), (mMo_carries, 0)) := ⟨mMo_carries_ok, nw_in (i := 668) rfl rfl, by decide +kernel, fun _ => ⟨nw_in (i := 670) rfl rfl, nw_in (i := 12) rfl rfl, by decide⟩, fun h => absurd h (by decide), fun h => absurd h (by decide)⟩
set_option maxRecDepth 20000 in
theorem nw_ca71 : nw_caOK ((7, 121), (mMo_entries, 0)) := ⟨mMo_entries_ok, nw_in (i := 676) rfl rfl, by decide +kernel, fun _ => ⟨nw_in (i := 678) rfl rfl, nw_in (i := 14) rfl rfl, by decide⟩, fun h => absurd h (by decide), fun h => absurd h (by decide)⟩
set_option maxRecDepth 20000 in
theorem nw_ca72 : nw_caOK ((7, 125), (mMo_room, 0)) := ⟨mMo_room_ok, nw_in (i := 680) rfl rfl, by decide +kernel, fun _ => ⟨nw_in (i := 682) rfl rfl, nw_in (i := 15) rfl rfl, by decide⟩, fun h => absurd h (by decide), fun h => absurd h (by decide)⟩
set_option maxRecDepth 20000 in
theorem nw_ca73 : nw_caOK ((7, 131), (mMo_server, 0)) := ⟨mMo_server_ok, nw_in (i := 644) rfl rfl, by decide +kernel, fun _ => ⟨nw_in (i := 646) rfl rfl, nw_in (i := 10) rfl rfl, by decide⟩, fun h => absurd h (by decide), fun h => absurd h (by decide)⟩
set_option maxRecDepth 20000 in
theorem nw_ca74 : nw_caOK ((7, 135), (mMo_useless, 0)) := ⟨mMo_useless_ok, nw_in (i := 664) rfl rfl, by decide +kernel, fun _ => ⟨nw_in (i := 666) rfl rfl, nw_in (i := 11) rfl rfl, by decide⟩, fun h => absurd h (by decide), fun h => absurd h (by decide)⟩
set_option maxRecDepth 20000 in
theorem nw_ca75 : nw_caOK ((7, 138), (mMo_lacks, 0)) := ⟨mMo_lacks_ok, nw_in (i := 672) rfl rfl, by decide +kernel, fun _ => ⟨nw_in (i := 674) rfl rfl, nw_in (i := 13) rfl rfl, by decide⟩, fun h => absurd h (by decide), fun h => absurd h (by decide)⟩
set_option maxRecDepth 20000 in
theorem nw_ca76 : nw_caOK ((7, 141), (mMo_begin, 0)) := ⟨mMo_begin_ok, nw_in (i := 692) rfl rfl, by decide +kernel, fun _ => ⟨nw_in (i := 694) rfl rfl, nw_in (i := 18) rfl rfl, by decide⟩, fun h => absurd h (by decide), fun h => absurd h (by decide)⟩
set_option maxRecDepth 20000 in
theorem nw_ca77 : nw_caOK ((7, 145), (mMo_leaves, 0)) := ⟨mMo_leaves_ok, nw_in (i := 700) rfl rfl, by decide +kernel, fun _ => ⟨nw_in (i := 702) rfl rfl, nw_in (i := 19) rfl rfl, by decide⟩, fun h => absurd h (by decide), fun h => absurd h (by decide)⟩
set_option maxRecDepth 20000 in
theorem nw_ca78 : nw_caOK ((7, 149), (mMo_later, 0)) := ⟨mMo_later_ok, nw_in (i := 704) rfl rfl, by decide +kernel, fun _ => ⟨nw_in (i := 706) rfl rfl, nw_in (i := 20) rfl rfl, by decide⟩, fun h => absurd h (by decide), fun h => absurd h (by decide)⟩
set_option maxRecDepth 20000 in
theorem nw_ca79 : nw_caOK ((7, 152), (mMo_file, 0)) := ⟨mMo_file_ok, nw_in (i := 712) rfl rfl, by decide +kernel, fun _ => ⟨nw_in (i := 714) rfl rfl, nw_in (i := 21) rfl rfl, by decide⟩, fun h => absurd h (by decide), fun h => absurd h (by decide)⟩
set_option maxRecDepth 20000 in
theorem nw_ca80 : nw_caOK ((7, 155), (mMo_wants, 0)) := ⟨mMo_wants_ok, nw_in (i := 716) rfl rfl, by decide +kernel, fun _ => ⟨nw_in (i := 718) rfl rfl, nw_in (i := 22) rfl rfl, by decide⟩, fun h => absurd h (by decide), fun h => absurd h (by decide)⟩
set_option maxRecDepth 20000 in
theorem nw_ca81 : nw_caOK ((7, 158), (mMo_cancel, 0)) := ⟨mMo_cancel_ok, nw_in (i := 721) rfl rfl, by decide +kernel, fun _ => ⟨nw_in (i := 723) rfl rfl, nw_in (i := 23) rfl rfl, by decide⟩, fun h => absurd h (by decide), fun h => absurd h (by decide)⟩
set_option maxRecDepth 20000 in
theorem nw_ca82 : nw_caOK ((7, 161), (mMo_matches, 0)) := ⟨mMo_matches_ok, nw_in (i := 720) rfl rfl, by decide +kernel, fun _ => ⟨nw_in (i := 628) rfl rfl, nw_in (i := 629) rfl rfl, by decide⟩, fun h => absurd h (by decide), fun h => absurd h (by decide)⟩
set_option maxRecDepth 20000 in
theorem nw_ca83 : nw_caOK ((7, 165), (mMo_remove, 0)) := ⟨mMo_remove_ok, nw_in (i := 725) rfl rfl, by decide +kernel, fun _ => ⟨nw_in (i := 727) rfl rfl, nw_in (i := 24) rfl rfl, by decide⟩, fun h => absurd h (by decide), fun h => absurd h (by decide)⟩
set_option maxRecDepth 20000 in
theorem nw_ca84 : nw_caOK ((7, 168), (mMo_holds, 0)) := ⟨mMo_holds_ok, nw_in (i := 753) rfl rfl, by decide +kernel, fun _ => ⟨nw_in (i := 755) rfl rfl, nw_in (i := 27) rfl rfl, by decide⟩, fun h => absurd h (by decide), fun h => absurd h (by decide)⟩
set_option maxRecDepth 20000 in
theorem nw_ca85 : nw_caOK ((7, 171), (mMo_numberOf, 0)) := ⟨mMo_numberOf_ok, nw_in (i := 749) rfl rfl, by decide +kernel, fun _ => ⟨nw_in (i := 751) rfl rfl, nw_in (i := 26) rfl rfl, by decide⟩, fun h => absurd h (by decide), fun h => absurd h (by decide)⟩
set_option maxRecDepth 20000 in
theorem nw_ca86 : nw_caOK ((7, 175), (mMo_next, 0)) := ⟨mMo_next_ok, nw_in (i := 745) rfl rfl, by decide +kernel, fun _ => ⟨nw_in (i := 747) rfl rfl, nw_in (i := 25) rfl rfl, by decide⟩, fun h => absurd h (by decide), fun h => absurd h (by decide)⟩
set_option maxRecDepth 20000 in
theorem nw_ca87 : nw_caOK ((7, 179), (mMo_count, 0)) := ⟨mMo_count_ok, nw_in (i := 757) rfl rfl, by decide +kernel, fun _ => ⟨nw_in (i := 759) rfl rfl, nw_in (i := 28) rfl rfl, by decide⟩, fun h => absurd h (by decide), fun h => absurd h (by decide)⟩
set_option maxRecDepth 20000 in
theorem nw_ca88 : nw_caOK ((8, 7), (mTe_isText, 1)) := ⟨mTe_isText_ok, nw_in (i := 243) rfl rfl, by decide +kernel, fun h => absurd h (by decide), fun _ => nw_in (i := 244) rfl rfl, fun h => absurd h (by decide)⟩
set_option maxRecDepth 20000 in
theorem nw_ca89 : nw_caOK ((8, 13), (mTe_lengthOf, 1)) := ⟨mTe_lengthOf_ok, nw_in (i := 246) rfl rfl, by decide +kernel, fun h => absurd h (by decide), fun _ => nw_in (i := 247) rfl rfl, fun h => absurd h (by decide)⟩
set_option maxRecDepth 20000 in
theorem nw_ca90 : nw_caOK ((8, 17), (mTe_characterAt, 1)) := ⟨mTe_characterAt_ok, nw_in (i := 249) rfl rfl, by decide +kernel, fun h => absurd h (by decide), fun _ => nw_in (i := 250) rfl rfl, fun h => absurd h (by decide)⟩
set_option maxRecDepth 20000 in
theorem nw_ca91 : nw_caOK ((8, 21), (mTe_placesAfter, 1)) := ⟨mTe_placesAfter_ok, nw_in (i := 280) rfl rfl, by decide +kernel, fun h => absurd h (by decide), fun _ => nw_in (i := 281) rfl rfl, fun h => absurd h (by decide)⟩
set_option maxRecDepth 20000 in
theorem nw_ca92 : nw_caOK ((8, 25), (mTe_isOfName, 1)) := ⟨mTe_isOfName_ok, nw_in (i := 252) rfl rfl, by decide +kernel, fun h => absurd h (by decide), fun _ => nw_in (i := 253) rfl rfl, fun h => absurd h (by decide)⟩
set_option maxRecDepth 20000 in
theorem nw_ca93 : nw_caOK ((8, 29), (mTe_isSign, 1)) := ⟨mTe_isSign_ok, nw_in (i := 255) rfl rfl, by decide +kernel, fun h => absurd h (by decide), fun _ => nw_in (i := 256) rfl rfl, fun h => absurd h (by decide)⟩
set_option maxRecDepth 20000 in
theorem nw_ca94 : nw_caOK ((8, 32), (mTe_spotsOf, 1)) := ⟨mTe_spotsOf_ok, nw_in (i := 283) rfl rfl, by decide +kernel, fun h => absurd h (by decide), fun _ => nw_in (i := 284) rfl rfl, fun h => absurd h (by decide)⟩
set_option maxRecDepth 20000 in
theorem nw_ca95 : nw_caOK ((10, 9), (mLa_cell, 1)) := ⟨mLa_cell_ok, nw_in (i := 532) rfl rfl, by decide +kernel, fun h => absurd h (by decide), fun _ => nw_in (i := 533) rfl rfl, fun h => absurd h (by decide)⟩
set_option maxRecDepth 20000 in
theorem nw_ca96 : nw_caOK ((10, 15), (mNf_init, 2)) := ⟨mNf_init_ok, nw_in (i := 42) rfl rfl, by decide +kernel, fun h => absurd h (by decide), fun h => absurd h (by decide), fun _ => ⟨nw_in (i := 43) rfl rfl, rfl, rfl⟩⟩
set_option maxRecDepth 20000 in
theorem nw_ca97 : nw_caOK ((10, 20), (mMo_init, 2)) := ⟨mMo_init_ok, nw_in (i := 537) rfl rfl, by decide +kernel, fun h => absurd h (by decide), fun h => absurd h (by decide), fun _ => ⟨nw_in (i := 538) rfl rfl, rfl, rfl⟩⟩
set_option maxRecDepth 20000 in
theorem nw_ca98 : nw_caOK ((10, 23), (mNf_carry, 0)) := ⟨mNf_carry_ok, nw_in (i := 232) rfl rfl, by decide +kernel, fun _ => ⟨nw_in (i := 233) rfl rfl, nw_in (i := 234) rfl rfl, by decide⟩, fun h => absurd h (by decide), fun h => absurd h (by decide)⟩
set_option maxRecDepth 20000 in
theorem nw_ca99 : nw_caOK ((10, 27), (mMo_carry, 0)) := ⟨mMo_carry_ok, nw_in (i := 640) rfl rfl, by decide +kernel, fun _ => ⟨nw_in (i := 641) rfl rfl, nw_in (i := 642) rfl rfl, by decide⟩, fun h => absurd h (by decide), fun h => absurd h (by decide)⟩
set_option maxRecDepth 20000 in
theorem nw_ca100 : nw_caOK ((10, 28), (mNf_peer, 0)) := ⟨mNf_peer_ok, nw_in (i := 262) rfl rfl, by decide +kernel, fun _ => ⟨nw_in (i := 263) rfl rfl, nw_in (i := 264) rfl rfl, by decide⟩, fun h => absurd h (by decide), fun h => absurd h (by decide)⟩
set_option maxRecDepth 20000 in
theorem nw_ca101 : nw_caOK ((10, 32), (mMo_peer, 0)) := ⟨mMo_peer_ok, nw_in (i := 648) rfl rfl, by decide +kernel, fun _ => ⟨nw_in (i := 649) rfl rfl, nw_in (i := 650) rfl rfl, by decide⟩, fun h => absurd h (by decide), fun h => absurd h (by decide)⟩
set_option maxRecDepth 20000 in
theorem nw_ca102 : nw_caOK ((10, 33), (mNf_matches, 0)) := ⟨mNf_matches_ok, nw_in (i := 273) rfl rfl, by decide +kernel, fun _ => ⟨nw_in (i := 274) rfl rfl, nw_in (i := 275) rfl rfl, by decide⟩, fun h => absurd h (by decide), fun h => absurd h (by decide)⟩
set_option maxRecDepth 20000 in
theorem nw_ca103 : nw_caOK ((10, 37), (mMo_matches, 0)) := ⟨mMo_matches_ok, nw_in (i := 627) rfl rfl, by decide +kernel, fun _ => ⟨nw_in (i := 628) rfl rfl, nw_in (i := 629) rfl rfl, by decide⟩, fun h => absurd h (by decide), fun h => absurd h (by decide)⟩
set_option maxRecDepth 20000 in
theorem nw_ca104 : nw_caOK ((10, 38), (mNf_write, 0)) := ⟨mNf_write_ok, nw_in (i := 287) rfl rfl, by decide +kernel, fun _ => ⟨nw_in (i := 288) rfl rfl, nw_in (i := 289) rfl rfl, by decide⟩, fun h => absurd h (by decide), fun h => absurd h (by decide)⟩
set_option maxRecDepth 20000 in
theorem nw_ca105 : nw_caOK ((10, 42), (mMo_write, 0)) := ⟨mMo_write_ok, nw_in (i := 652) rfl rfl, by decide +kernel, fun _ => ⟨nw_in (i := 653) rfl rfl, nw_in (i := 654) rfl rfl, by decide⟩, fun h => absurd h (by decide), fun h => absurd h (by decide)⟩
set_option maxRecDepth 20000 in
theorem nw_ca106 : nw_caOK ((10, 43), (mNf_post, 0)) := ⟨mNf_post_ok, nw_in (i := 299) rfl rfl, by decide +kernel, fun _ => ⟨nw_in (i := 300) rfl rfl, nw_in (i := 301) rfl rfl, by decide⟩, fun h => absurd h (by decide), fun h => absurd h (by decide)⟩
set_option maxRecDepth 20000 in
theorem nw_ca107 : nw_caOK ((10, 47), (mMo_post, 0)) := ⟨mMo_post_ok, nw_in (i := 660) rfl rfl, by decide +kernel, fun _ => ⟨nw_in (i := 661) rfl rfl, nw_in (i := 662) rfl rfl, by decide⟩, fun h => absurd h (by decide), fun h => absurd h (by decide)⟩
set_option maxRecDepth 20000 in
theorem nw_ca108 : nw_caOK ((10, 48), (mNf_offer, 0)) := ⟨mNf_offer_ok, nw_in (i := 344) rfl rfl, by decide +kernel, fun _ => ⟨nw_in (i := 345) rfl rfl, nw_in (i := 346) rfl rfl, by decide⟩, fun h => absurd h (by decide), fun h => absurd h (by decide)⟩
set_option maxRecDepth 20000 in
theorem nw_ca109 : nw_caOK ((10, 52), (mMo_offer, 0)) := ⟨mMo_offer_ok, nw_in (i := 696) rfl rfl, by decide +kernel, fun _ => ⟨nw_in (i := 697) rfl rfl, nw_in (i := 698) rfl rfl, by decide⟩, fun h => absurd h (by decide), fun h => absurd h (by decide)⟩
set_option maxRecDepth 20000 in
theorem nw_ca110 : nw_caOK ((10, 53), (mNf_receive, 0)) := ⟨mNf_receive_ok, nw_in (i := 365) rfl rfl, by decide +kernel, fun _ => ⟨nw_in (i := 366) rfl rfl, nw_in (i := 367) rfl rfl, by decide⟩, fun h => absurd h (by decide), fun h => absurd h (by decide)⟩
set_option maxRecDepth 20000 in
theorem nw_ca111 : nw_caOK ((10, 56), (mMo_receive, 0)) := ⟨mMo_receive_ok, nw_in (i := 708) rfl rfl, by decide +kernel, fun _ => ⟨nw_in (i := 709) rfl rfl, nw_in (i := 710) rfl rfl, by decide⟩, fun h => absurd h (by decide), fun h => absurd h (by decide)⟩
set_option maxRecDepth 20000 in
theorem nw_ca112 : nw_caOK ((10, 57), (mNf_crash, 0)) := ⟨mNf_crash_ok, nw_in (i := 411) rfl rfl, by decide +kernel, fun _ => ⟨nw_in (i := 412) rfl rfl, nw_in (i := 413) rfl rfl, by decide⟩, fun h => absurd h (by decide), fun h => absurd h (by decide)⟩
set_option maxRecDepth 20000 in
theorem nw_ca113 : nw_caOK ((10, 61), (mMo_crash, 0)) := ⟨mMo_crash_ok, nw_in (i := 729) rfl rfl, by decide +kernel, fun _ => ⟨nw_in (i := 730) rfl rfl, nw_in (i := 731) rfl rfl, by decide⟩, fun h => absurd h (by decide), fun h => absurd h (by decide)⟩
set_option maxRecDepth 20000 in
theorem nw_ca114 : nw_caOK ((10, 62), (mNf_tick, 0)) := ⟨mNf_tick_ok, nw_in (i := 420) rfl rfl, by decide +kernel, fun _ => ⟨nw_in (i := 421) rfl rfl, nw_in (i := 422) rfl rfl, by decide⟩, fun h => absurd h (by decide), fun h => absurd h (by decide)⟩
set_option maxRecDepth 20000 in
theorem nw_ca115 : nw_caOK ((10, 65), (mMo_tick, 0)) := ⟨mMo_tick_ok, nw_in (i := 733) rfl rfl, by decide +kernel, fun _ => ⟨nw_in (i := 734) rfl rfl, nw_in (i := 735) rfl rfl, by decide⟩, fun h => absurd h (by decide), fun h => absurd h (by decide)⟩
set_option maxRecDepth 20000 in
theorem nw_ca116 : nw_caOK ((10, 66), (mNf_expire, 0)) := ⟨mNf_expire_ok, nw_in (i := 424) rfl rfl, by decide +kernel, fun _ => ⟨nw_in (i := 425) rfl rfl, nw_in (i := 426) rfl rfl, by decide⟩, fun h => absurd h (by decide), fun h => absurd h (by decide)⟩
set_option maxRecDepth 20000 in
theorem nw_ca117 : nw_caOK ((10, 69), (mMo_expire, 0)) := ⟨mMo_expire_ok, nw_in (i := 737) rfl rfl, by decide +kernel, fun _ => ⟨nw_in (i := 738) rfl rfl, nw_in (i := 739) rfl rfl, by decide⟩, fun h => absurd h (by decide), fun h => absurd h (by decide)⟩
set_option maxRecDepth 20000 in
theorem nw_ca118 : nw_caOK ((10, 70), (mNf_select, 0)) := ⟨mNf_select_ok, nw_in (i := 442) rfl rfl, by decide +kernel, fun _ => ⟨nw_in (i := 443) rfl rfl, nw_in (i := 444) rfl rfl, by decide⟩, fun h => absurd h (by decide), fun h => absurd h (by decide)⟩
set_option maxRecDepth 20000 in
theorem nw_ca119 : nw_caOK ((10, 73), (mMo_select, 0)) := ⟨mMo_select_ok, nw_in (i := 741) rfl rfl, by decide +kernel, fun _ => ⟨nw_in (i := 742) rfl rfl, nw_in (i := 743) rfl rfl, by decide⟩, fun h => absurd h (by decide), fun h => absurd h (by decide)⟩
set_option maxRecDepth 20000 in
theorem nw_ca120 : nw_caOK ((10, 74), (mNf_step, 0)) := ⟨mNf_step_ok, nw_in (i := 462) rfl rfl, by decide +kernel, fun _ => ⟨nw_in (i := 463) rfl rfl, nw_in (i := 464) rfl rfl, by decide⟩, fun h => absurd h (by decide), fun h => absurd h (by decide)⟩
set_option maxRecDepth 20000 in
theorem nw_ca121 : nw_caOK ((10, 78), (mMo_step, 0)) := ⟨mMo_step_ok, nw_in (i := 761) rfl rfl, by decide +kernel, fun _ => ⟨nw_in (i := 762) rfl rfl, nw_in (i := 763) rfl rfl, by decide⟩, fun h => absurd h (by decide), fun h => absurd h (by decide)⟩
set_option maxRecDepth 20000 in
theorem nw_ca122 : nw_caOK ((10, 79), (mNf_stat, 0)) := ⟨mNf_stat_ok, nw_in (i := 481) rfl rfl, by decide +kernel, fun _ => ⟨nw_in (i := 482) rfl rfl, nw_in (i := 483) rfl rfl, by decide⟩, fun h => absurd h (by decide), fun h => absurd h (by decide)⟩
set_option maxRecDepth 20000 in
theorem nw_ca123 : nw_caOK ((10, 82), (mMo_stat, 0)) := ⟨mMo_stat_ok, nw_in (i := 765) rfl rfl, by decide +kernel, fun _ => ⟨nw_in (i := 766) rfl rfl, nw_in (i := 767) rfl rfl, by decide⟩, fun h => absurd h (by decide), fun h => absurd h (by decide)⟩
set_option maxRecDepth 20000 in
theorem nw_ca124 : nw_caOK ((10, 83), (mNf_over, 0)) := ⟨mNf_over_ok, nw_in (i := 485) rfl rfl, by decide +kernel, fun _ => ⟨nw_in (i := 486) rfl rfl, nw_in (i := 487) rfl rfl, by decide⟩, fun h => absurd h (by decide), fun h => absurd h (by decide)⟩
set_option maxRecDepth 20000 in
theorem nw_ca125 : nw_caOK ((10, 86), (mMo_over, 0)) := ⟨mMo_over_ok, nw_in (i := 769) rfl rfl, by decide +kernel, fun _ => ⟨nw_in (i := 770) rfl rfl, nw_in (i := 771) rfl rfl, by decide⟩, fun h => absurd h (by decide), fun h => absurd h (by decide)⟩
set_option maxRecDepth 20000 in
theorem nw_ca126 : nw_caOK ((10, 87), (mNf_group, 0)) := ⟨mNf_group_ok, nw_in (i := 490) rfl rfl, by decide +kernel, fun _ => ⟨nw_in (i := 491) rfl rfl, nw_in (i := 492) rfl rfl, by decide⟩, fun h => absurd h (by decide), fun h => absurd h (by decide)⟩
set_option maxRecDepth 20000 in
theorem nw_ca127 : nw_caOK ((10, 90), (mMo_group, 0)) := ⟨mMo_group_ok, nw_in (i := 773) rfl rfl, by decide +kernel, fun _ => ⟨nw_in (i := 774) rfl rfl, nw_in (i := 775) rfl rfl, by decide⟩, fun h => absurd h (by decide), fun h => absurd h (by decide)⟩
set_option maxRecDepth 20000 in
theorem nw_ca128 : nw_caOK ((10, 91), (mNf_history, 0)) := ⟨mNf_history_ok, nw_in (i := 499) rfl rfl, by decide +kernel, fun _ => ⟨nw_in (i := 500) rfl rfl, nw_in (i := 501) rfl rfl, by decide⟩, fun h => absurd h (by decide), fun h => absurd h (by decide)⟩
set_option maxRecDepth 20000 in
theorem nw_ca129 : nw_caOK ((10, 94), (mMo_history, 0)) := ⟨mMo_history_ok, nw_in (i := 777) rfl rfl, by decide +kernel, fun _ => ⟨nw_in (i := 778) rfl rfl, nw_in (i := 779) rfl rfl, by decide⟩, fun h => absurd h (by decide), fun h => absurd h (by decide)⟩
set_option maxRecDepth 20000 in
theorem nw_ca130 : nw_caOK ((10, 95), (mNf_article, 0)) := ⟨mNf_article_ok, nw_in (i := 503) rfl rfl, by decide +kernel, fun _ => ⟨nw_in (i := 504) rfl rfl, nw_in (i := 505) rfl rfl, by decide⟩, fun h => absurd h (by decide), fun h => absurd h (by decide)⟩
set_option maxRecDepth 20000 in
theorem nw_ca131 : nw_caOK ((10, 98), (mMo_article, 0)) := ⟨mMo_article_ok, nw_in (i := 781) rfl rfl, by decide +kernel, fun _ => ⟨nw_in (i := 782) rfl rfl, nw_in (i := 783) rfl rfl, by decide⟩, fun h => absurd h (by decide), fun h => absurd h (by decide)⟩
set_option maxRecDepth 20000 in
theorem nw_ca132 : nw_caOK ((10, 99), (mNf_backlog, 0)) := ⟨mNf_backlog_ok, nw_in (i := 511) rfl rfl, by decide +kernel, fun _ => ⟨nw_in (i := 512) rfl rfl, nw_in (i := 513) rfl rfl, by decide⟩, fun h => absurd h (by decide), fun h => absurd h (by decide)⟩
set_option maxRecDepth 20000 in
theorem nw_ca133 : nw_caOK ((10, 102), (mMo_backlog, 0)) := ⟨mMo_backlog_ok, nw_in (i := 785) rfl rfl, by decide +kernel, fun _ => ⟨nw_in (i := 786) rfl rfl, nw_in (i := 787) rfl rfl, by decide⟩, fun h => absurd h (by decide), fun h => absurd h (by decide)⟩
set_option maxRecDepth 20000 in
theorem nw_ca134 : nw_caOK ((10, 103), (mNf_about, 0)) := ⟨mNf_about_ok, nw_in (i := 515) rfl rfl, by decide +kernel, fun _ => ⟨nw_in (i := 516) rfl rfl, nw_in (i := 517) rfl rfl, by decide⟩, fun h => absurd h (by decide), fun h => absurd h (by decide)⟩
set_option maxRecDepth 20000 in
theorem nw_ca135 : nw_caOK ((10, 106), (mMo_about, 0)) := ⟨mMo_about_ok, nw_in (i := 789) rfl rfl, by decide +kernel, fun _ => ⟨nw_in (i := 790) rfl rfl, nw_in (i := 791) rfl rfl, by decide⟩, fun h => absurd h (by decide), fun h => absurd h (by decide)⟩
def nw_caL0 : List nw_CE := [((2, 22), (mEn_isFull, 0)), ((2, 26), (mEn_knows, 0)), ((2, 30), (mEn_holds, 0)), ((3, 24), (mIn_open, 0)), ((4, 11), (mSp_init, 2)), ((4, 20), (mEn_init, 2)), ((4, 27), (mIn_init, 2)), ((4, 60), (mBa_init, 2)), ((4, 68), (mEn_isFull, 0)), ((4, 72), (mSp_placeFor, 0)), ((4, 76), (mSp_take, 0)), ((4, 80), (mIn_open, 0)), ((4, 87), (mSp_release, 0)), ((4, 91), (mIn_close, 0)), ((4, 97), (mBa_remove, 0)), ((4, 100), (mSe_nextNumber, 0)), ((4, 104), (mSe_countNumbers, 0)), ((5, 15), (mSp_placeFor, 0)), ((6, 28), (mSe_init, 2)), ((6, 37), (mAr_init, 2)), ((6, 42), (mNf_isServer, 0)), ((6, 46), (mTe_isName, 1)), ((6, 52), (mNf_placeOfGroup, 0)), ((6, 63), (mTe_isPattern, 1))]
set_option maxRecDepth 20000 in
theorem nw_caL0_ok : ∀ q ∈ nw_caL0, nw_caOK q := List.forall_mem_cons.mpr ⟨nw_ca0, List.forall_mem_cons.mpr ⟨nw_ca1, List.forall_mem_cons.mpr ⟨nw_ca2, List.forall_mem_cons.mpr ⟨nw_ca3, List.forall_mem_cons.mpr ⟨nw_ca4, List.forall_mem_cons.mpr ⟨nw_ca5, List.forall_mem_cons.mpr ⟨nw_ca6, List.forall_mem_cons.mpr ⟨nw_ca7, List.forall_mem_cons.mpr ⟨nw_ca8, List.forall_mem_cons.mpr ⟨nw_ca9, List.forall_mem_cons.mpr ⟨nw_ca10, List.forall_mem_cons.mpr ⟨nw_ca11, List.forall_mem_cons.mpr ⟨nw_ca12, List.forall_mem_cons.mpr ⟨nw_ca13, List.forall_mem_cons.mpr ⟨nw_ca14, List.forall_mem_cons.mpr ⟨nw_ca15, List.forall_mem_cons.mpr ⟨nw_ca16, List.forall_mem_cons.mpr ⟨nw_ca17, List.forall_mem_cons.mpr ⟨nw_ca18, List.forall_mem_cons.mpr ⟨nw_ca19, List.forall_mem_cons.mpr ⟨nw_ca20, List.forall_mem_cons.mpr ⟨nw_ca21, List.forall_mem_cons.mpr ⟨nw_ca22, List.forall_mem_cons.mpr ⟨nw_ca23, fun _ h => absurd h List.not_mem_nil⟩⟩⟩⟩⟩⟩⟩⟩⟩⟩⟩⟩⟩⟩⟩⟩⟩⟩⟩⟩⟩⟩⟩⟩
def nw_caL1 : List nw_CE := [((6, 73), (mBa_clear, 0)), ((6, 78), (mTe_patternMatches, 1)), ((6, 82), (mNf_isId, 1)), ((6, 90), (mAr_put, 0)), ((6, 101), (mIn_isOpen, 0)), ((6, 111), (mEn_knows, 0)), ((6, 116), (mNf_canUse, 0)), ((6, 123), (mSe_lacksRoom, 0)), ((6, 126), (mSe_beginIntake, 0)), ((6, 129), (mBa_at, 0)), ((6, 133), (mBa_remove, 0)), ((6, 136), (mNf_untilOf, 0)), ((6, 140), (mEn_enter, 0)), ((6, 150), (mNf_fileIntake, 0)), ((6, 156), (mSe_loseIntake, 0)), ((6, 168), (mEn_holds, 0)), ((6, 171), (mSe_takeOldNumbers, 0)), ((6, 175), (mSe_hasNumber, 0)), ((6, 178), (mSe_removeArticle, 0)), ((6, 181), (mEn_dropOlderThan, 0)), ((6, 184), (mNf_carries, 0)), ((6, 188), (mSe_nextNumber, 0)), ((6, 191), (mSe_countAll, 0)), ((6, 194), (mNf_hasSelected, 0))]
set_option maxRecDepth 20000 in
theorem nw_caL1_ok : ∀ q ∈ nw_caL1, nw_caOK q := List.forall_mem_cons.mpr ⟨nw_ca24, List.forall_mem_cons.mpr ⟨nw_ca25, List.forall_mem_cons.mpr ⟨nw_ca26, List.forall_mem_cons.mpr ⟨nw_ca27, List.forall_mem_cons.mpr ⟨nw_ca28, List.forall_mem_cons.mpr ⟨nw_ca29, List.forall_mem_cons.mpr ⟨nw_ca30, List.forall_mem_cons.mpr ⟨nw_ca31, List.forall_mem_cons.mpr ⟨nw_ca32, List.forall_mem_cons.mpr ⟨nw_ca33, List.forall_mem_cons.mpr ⟨nw_ca34, List.forall_mem_cons.mpr ⟨nw_ca35, List.forall_mem_cons.mpr ⟨nw_ca36, List.forall_mem_cons.mpr ⟨nw_ca37, List.forall_mem_cons.mpr ⟨nw_ca38, List.forall_mem_cons.mpr ⟨nw_ca39, List.forall_mem_cons.mpr ⟨nw_ca40, List.forall_mem_cons.mpr ⟨nw_ca41, List.forall_mem_cons.mpr ⟨nw_ca42, List.forall_mem_cons.mpr ⟨nw_ca43, List.forall_mem_cons.mpr ⟨nw_ca44, List.forall_mem_cons.mpr ⟨nw_ca45, List.forall_mem_cons.mpr ⟨nw_ca46, List.forall_mem_cons.mpr ⟨nw_ca47, fun _ h => absurd h List.not_mem_nil⟩⟩⟩⟩⟩⟩⟩⟩⟩⟩⟩⟩⟩⟩⟩⟩⟩⟩⟩⟩⟩⟩⟩⟩
def nw_caL2 : List nw_CE := [((6, 197), (mSe_previousNumber, 0)), ((6, 200), (mNf_goTo, 1)), ((6, 204), (mSe_countNumbers, 0)), ((6, 211), (mSe_lowestOrNext, 0)), ((6, 224), (mSp_firstBlockOf, 0)), ((6, 236), (mEn_countOf, 0)), ((6, 239), (mSp_countFree, 0)), ((6, 243), (mSp_longestFree, 0)), ((6, 258), (mSe_carriesSome, 0)), ((6, 263), (mIn_close, 0)), ((6, 266), (mSe_hold, 0)), ((6, 269), (mNf_feedOthers, 0)), ((6, 276), (mNf_cancelAt, 0)), ((6, 279), (mNf_wants, 0)), ((6, 283), (mBa_append, 0)), ((6, 286), (mSe_idWithNumber, 0)), ((7, 91), (mMo_at, 1)), ((7, 95), (mMo_length, 1)), ((7, 99), (mMo_fits, 1)), ((7, 103), (mMo_isId, 1)), ((7, 107), (mMo_free, 0)), ((7, 111), (mMo_run, 0)), ((7, 115), (mMo_carries, 0)), ((7, 121), (mMo_entries, 0))]
set_option maxRecDepth 20000 in
theorem nw_caL2_ok : ∀ q ∈ nw_caL2, nw_caOK q := List.forall_mem_cons.mpr ⟨nw_ca48, List.forall_mem_cons.mpr ⟨nw_ca49, List.forall_mem_cons.mpr ⟨nw_ca50, List.forall_mem_cons.mpr ⟨nw_ca51, List.forall_mem_cons.mpr ⟨nw_ca52, List.forall_mem_cons.mpr ⟨nw_ca53, List.forall_mem_cons.mpr ⟨nw_ca54, List.forall_mem_cons.mpr ⟨nw_ca55, List.forall_mem_cons.mpr ⟨nw_ca56, List.forall_mem_cons.mpr ⟨nw_ca57, List.forall_mem_cons.mpr ⟨nw_ca58, List.forall_mem_cons.mpr ⟨nw_ca59, List.forall_mem_cons.mpr ⟨nw_ca60, List.forall_mem_cons.mpr ⟨nw_ca61, List.forall_mem_cons.mpr ⟨nw_ca62, List.forall_mem_cons.mpr ⟨nw_ca63, List.forall_mem_cons.mpr ⟨nw_ca64, List.forall_mem_cons.mpr ⟨nw_ca65, List.forall_mem_cons.mpr ⟨nw_ca66, List.forall_mem_cons.mpr ⟨nw_ca67, List.forall_mem_cons.mpr ⟨nw_ca68, List.forall_mem_cons.mpr ⟨nw_ca69, List.forall_mem_cons.mpr ⟨nw_ca70, List.forall_mem_cons.mpr ⟨nw_ca71, fun _ h => absurd h List.not_mem_nil⟩⟩⟩⟩⟩⟩⟩⟩⟩⟩⟩⟩⟩⟩⟩⟩⟩⟩⟩⟩⟩⟩⟩⟩
def nw_caL3 : List nw_CE := [((7, 125), (mMo_room, 0)), ((7, 131), (mMo_server, 0)), ((7, 135), (mMo_useless, 0)), ((7, 138), (mMo_lacks, 0)), ((7, 141), (mMo_begin, 0)), ((7, 145), (mMo_leaves, 0)), ((7, 149), (mMo_later, 0)), ((7, 152), (mMo_file, 0)), ((7, 155), (mMo_wants, 0)), ((7, 158), (mMo_cancel, 0)), ((7, 161), (mMo_matches, 0)), ((7, 165), (mMo_remove, 0)), ((7, 168), (mMo_holds, 0)), ((7, 171), (mMo_numberOf, 0)), ((7, 175), (mMo_next, 0)), ((7, 179), (mMo_count, 0)), ((8, 7), (mTe_isText, 1)), ((8, 13), (mTe_lengthOf, 1)), ((8, 17), (mTe_characterAt, 1)), ((8, 21), (mTe_placesAfter, 1)), ((8, 25), (mTe_isOfName, 1)), ((8, 29), (mTe_isSign, 1)), ((8, 32), (mTe_spotsOf, 1)), ((10, 9), (mLa_cell, 1))]
set_option maxRecDepth 20000 in
theorem nw_caL3_ok : ∀ q ∈ nw_caL3, nw_caOK q := List.forall_mem_cons.mpr ⟨nw_ca72, List.forall_mem_cons.mpr ⟨nw_ca73, List.forall_mem_cons.mpr ⟨nw_ca74, List.forall_mem_cons.mpr ⟨nw_ca75, List.forall_mem_cons.mpr ⟨nw_ca76, List.forall_mem_cons.mpr ⟨nw_ca77, List.forall_mem_cons.mpr ⟨nw_ca78, List.forall_mem_cons.mpr ⟨nw_ca79, List.forall_mem_cons.mpr ⟨nw_ca80, List.forall_mem_cons.mpr ⟨nw_ca81, List.forall_mem_cons.mpr ⟨nw_ca82, List.forall_mem_cons.mpr ⟨nw_ca83, List.forall_mem_cons.mpr ⟨nw_ca84, List.forall_mem_cons.mpr ⟨nw_ca85, List.forall_mem_cons.mpr ⟨nw_ca86, List.forall_mem_cons.mpr ⟨nw_ca87, List.forall_mem_cons.mpr ⟨nw_ca88, List.forall_mem_cons.mpr ⟨nw_ca89, List.forall_mem_cons.mpr ⟨nw_ca90, List.forall_mem_cons.mpr ⟨nw_ca91, List.forall_mem_cons.mpr ⟨nw_ca92, List.forall_mem_cons.mpr ⟨nw_ca93, List.forall_mem_cons.mpr ⟨nw_ca94, List.forall_mem_cons.mpr ⟨nw_ca95, fun _ h => absurd h List.not_mem_nil⟩⟩⟩⟩⟩⟩⟩⟩⟩⟩⟩⟩⟩⟩⟩⟩⟩⟩⟩⟩⟩⟩⟩⟩
def nw_caL4 : List nw_CE := [((10, 15), (mNf_init, 2)), ((10, 20), (mMo_init, 2)), ((10, 23), (mNf_carry, 0)), ((10, 27), (mMo_carry, 0)), ((10, 28), (mNf_peer, 0)), ((10, 32), (mMo_peer, 0)), ((10, 33), (mNf_matches, 0)), ((10, 37), (mMo_matches, 0)), ((10, 38), (mNf_write, 0)), ((10, 42), (mMo_write, 0)), ((10, 43), (mNf_post, 0)), ((10, 47), (mMo_post, 0)), ((10, 48), (mNf_offer, 0)), ((10, 52), (mMo_offer, 0)), ((10, 53), (mNf_receive, 0)), ((10, 56), (mMo_receive, 0)), ((10, 57), (mNf_crash, 0)), ((10, 61), (mMo_crash, 0)), ((10, 62), (mNf_tick, 0)), ((10, 65), (mMo_tick, 0)), ((10, 66), (mNf_expire, 0)), ((10, 69), (mMo_expire, 0)), ((10, 70), (mNf_select, 0)), ((10, 73), (mMo_select, 0))]
set_option maxRecDepth 20000 in
theorem nw_caL4_ok : ∀ q ∈ nw_caL4, nw_caOK q := List.forall_mem_cons.mpr ⟨nw_ca96, List.forall_mem_cons.mpr ⟨nw_ca97, List.forall_mem_cons.mpr ⟨nw_ca98, List.forall_mem_cons.mpr ⟨nw_ca99, List.forall_mem_cons.mpr ⟨nw_ca100, List.forall_mem_cons.mpr ⟨nw_ca101, List.forall_mem_cons.mpr ⟨nw_ca102, List.forall_mem_cons.mpr ⟨nw_ca103, List.forall_mem_cons.mpr ⟨nw_ca104, List.forall_mem_cons.mpr ⟨nw_ca105, List.forall_mem_cons.mpr ⟨nw_ca106, List.forall_mem_cons.mpr ⟨nw_ca107, List.forall_mem_cons.mpr ⟨nw_ca108, List.forall_mem_cons.mpr ⟨nw_ca109, List.forall_mem_cons.mpr ⟨nw_ca110, List.forall_mem_cons.mpr ⟨nw_ca111, List.forall_mem_cons.mpr ⟨nw_ca112, List.forall_mem_cons.mpr ⟨nw_ca113, List.forall_mem_cons.mpr ⟨nw_ca114, List.forall_mem_cons.mpr ⟨nw_ca115, List.forall_mem_cons.mpr ⟨nw_ca116, List.forall_mem_cons.mpr ⟨nw_ca117, List.forall_mem_cons.mpr ⟨nw_ca118, List.forall_mem_cons.mpr ⟨nw_ca119, fun _ h => absurd h List.not_mem_nil⟩⟩⟩⟩⟩⟩⟩⟩⟩⟩⟩⟩⟩⟩⟩⟩⟩⟩⟩⟩⟩⟩⟩⟩
def nw_caL5 : List nw_CE := [((10, 74), (mNf_step, 0)), ((10, 78), (mMo_step, 0)), ((10, 79), (mNf_stat, 0)), ((10, 82), (mMo_stat, 0)), ((10, 83), (mNf_over, 0)), ((10, 86), (mMo_over, 0)), ((10, 87), (mNf_group, 0)), ((10, 90), (mMo_group, 0)), ((10, 91), (mNf_history, 0)), ((10, 94), (mMo_history, 0)), ((10, 95), (mNf_article, 0)), ((10, 98), (mMo_article, 0)), ((10, 99), (mNf_backlog, 0)), ((10, 102), (mMo_backlog, 0)), ((10, 103), (mNf_about, 0)), ((10, 106), (mMo_about, 0))]
set_option maxRecDepth 20000 in
theorem nw_caL5_ok : ∀ q ∈ nw_caL5, nw_caOK q := List.forall_mem_cons.mpr ⟨nw_ca120, List.forall_mem_cons.mpr ⟨nw_ca121, List.forall_mem_cons.mpr ⟨nw_ca122, List.forall_mem_cons.mpr ⟨nw_ca123, List.forall_mem_cons.mpr ⟨nw_ca124, List.forall_mem_cons.mpr ⟨nw_ca125, List.forall_mem_cons.mpr ⟨nw_ca126, List.forall_mem_cons.mpr ⟨nw_ca127, List.forall_mem_cons.mpr ⟨nw_ca128, List.forall_mem_cons.mpr ⟨nw_ca129, List.forall_mem_cons.mpr ⟨nw_ca130, List.forall_mem_cons.mpr ⟨nw_ca131, List.forall_mem_cons.mpr ⟨nw_ca132, List.forall_mem_cons.mpr ⟨nw_ca133, List.forall_mem_cons.mpr ⟨nw_ca134, List.forall_mem_cons.mpr ⟨nw_ca135, fun _ h => absurd h List.not_mem_nil⟩⟩⟩⟩⟩⟩⟩⟩⟩⟩⟩⟩⟩⟩⟩⟩
def nw_caT : List nw_CE := nw_caL0 ++ (nw_caL1 ++ (nw_caL2 ++ (nw_caL3 ++ (nw_caL4 ++ (nw_caL5)))))
set_option maxRecDepth 20000 in
theorem nw_ca_all : ∀ q ∈ nw_caT, nw_caOK q := List.forall_mem_append.mpr ⟨nw_caL0_ok, List.forall_mem_append.mpr ⟨nw_caL1_ok, List.forall_mem_append.mpr ⟨nw_caL2_ok, List.forall_mem_append.mpr ⟨nw_caL3_ok, List.forall_mem_append.mpr ⟨nw_caL4_ok, nw_caL5_ok⟩⟩⟩⟩⟩
def nw_ca (o i : Nat) : Option (nw_M × Nat) := (nw_caT.find? (fun q => q.1.1 == o && q.1.2 == i)).map (fun q => q.2)
set_option maxRecDepth 20000 in
theorem nw_ca_ok {o i k : Nat} {M : nw_M} (h : nw_ca o i = some (M, k)) : nw_caOK ((o, i), (M, k)) := by
  unfold nw_ca at h
  cases hq : nw_caT.find? (fun q => q.1.1 == o && q.1.2 == i) with
  | none => rw [hq] at h; cases h
  | some q =>
    rw [hq] at h
    have h2 : q.2 = (M, k) := Option.some.inj h
    have h3 := nw_ca_all q (List.mem_of_find?_eq_some hq)
    have h4 := List.find?_some hq
    simp only [Bool.and_eq_true, beq_iff_eq] at h4
    have h5 : q = ((o, i), (M, k)) := Prod.ext (Prod.ext h4.1 h4.2) h2
    rw [h5] at h3
    exact h3
theorem nw_ca_S {o i : Nat} {M : nw_M} (h : nw_ca o i = some (M, 1)) : nw_mok M ∧ Cond.methodLink (nw_R o) i (nw_y M) ∈ nw_tb ∧ (parseMethodDescriptor (nw_y M).desc).map (fun d => d.parameters.length) = some (nw_np M) ∧ Cond.static (nw_y M) ∈ nw_tb := by
  have h := nw_ca_ok h
  exact ⟨h.1, h.2.1, h.2.2.1, h.2.2.2.2.1 rfl⟩
theorem nw_ca_V {o i : Nat} {M : nw_M} (h : nw_ca o i = some (M, 0)) : nw_mok M ∧ Cond.methodLink (nw_R o) i (nw_y M) ∈ nw_tb ∧ (parseMethodDescriptor (nw_y M).desc).map (fun d => d.parameters.length) = some (nw_np M) ∧ Cond.instanceMethod (nw_y M) ∈ nw_tb ∧ Cond.selects (nw_R (nw_on M)) (nw_y M) (nw_y M) ∈ nw_tb ∧ nw_on M < 8 := by
  have h := nw_ca_ok h
  have h2 := h.2.2.2.1 rfl
  exact ⟨h.1, h.2.1, h.2.2.1, h2.1, h2.2.1, h2.2.2⟩
theorem nw_ca_I {o i : Nat} {M : nw_M} (h : nw_ca o i = some (M, 2)) : nw_mok M ∧ Cond.methodLink (nw_R o) i (nw_y M) ∈ nw_tb ∧ (parseMethodDescriptor (nw_y M).desc).map (fun d => d.parameters.length) = some (nw_np M) ∧ Cond.instanceMethod (nw_y M) ∈ nw_tb ∧ (nw_y M).name = "<init>" ∧ nw_rt M = none := by
  have h := nw_ca_ok h
  have h2 := h.2.2.2.2.2 rfl
  exact ⟨h.1, h.2.1, h.2.2.1, h2.1, h2.2.1, h2.2.2⟩
def nw_oo (o i : Nat) : Bool := (o == 0 && i == 1) || (o == 1 && i == 3) || (o == 2 && i == 3) || (o == 3 && i == 3) || (o == 4 && i == 3) || (o == 5 && i == 3) || (o == 6 && i == 1) || (o == 7 && i == 1)
set_option maxRecDepth 20000 in
theorem nw_oo_ok {o i : Nat} (h : nw_oo o i = true) : Cond.methodLink (nw_R o) i objectInit ∈ nw_tb := by
  simp only [nw_oo, Bool.or_eq_true, Bool.and_eq_true, beq_iff_eq] at h
  rcases h with ((((((⟨rfl, rfl⟩ | ⟨rfl, rfl⟩) | ⟨rfl, rfl⟩) | ⟨rfl, rfl⟩) | ⟨rfl, rfl⟩) | ⟨rfl, rfl⟩) | ⟨rfl, rfl⟩) | ⟨rfl, rfl⟩
  · exact nw_in (i := 188) rfl rfl
  · exact nw_in (i := 124) rfl rfl
  · exact nw_in (i := 77) rfl rfl
  · exact nw_in (i := 97) rfl rfl
  · exact nw_in (i := 60) rfl rfl
  · exact nw_in (i := 66) rfl rfl
  · exact nw_in (i := 45) rfl rfl
  · exact nw_in (i := 540) rfl rfl
def nw_mx (o i : Nat) : Option Bool := if o = 5 ∧ i = 19 then some true else if o = 6 ∧ i = 9 then some false else if o = 6 ∧ i = 15 then some true else none
set_option maxRecDepth 20000 in
theorem nw_mx_max {o i : Nat} (h : nw_mx o i = some true) : Cond.methodLink (nw_R o) i Lib.Math.max.name ∈ nw_tb := by
  unfold nw_mx at h
  by_cases h0 : o = 5 ∧ i = 19
  · rw [if_pos h0] at h
    obtain ⟨rfl, rfl⟩ := h0
    exact nw_in (i := 531) rfl rfl
  rw [if_neg h0] at h
  by_cases h1 : o = 6 ∧ i = 9
  · rw [if_pos h1] at h
    cases h
  rw [if_neg h1] at h
  by_cases h2 : o = 6 ∧ i = 15
  · rw [if_pos h2] at h
    obtain ⟨rfl, rfl⟩ := h2
    exact nw_in (i := 51) rfl rfl
  rw [if_neg h2] at h
  cases h
set_option maxRecDepth 20000 in
theorem nw_mw_max : Cond.static Lib.Math.max.name ∈ nw_tb ∧ Cond.initialized "java/lang/Math" ∈ nw_tb ∧ Cond.code Lib.Math.max.name Lib.Math.max.code 2 (some .int) ∈ nw_tb := ⟨nw_in (i := 52) rfl rfl, nw_in (i := 31) rfl rfl, nw_in (i := 53) rfl rfl⟩
set_option maxRecDepth 20000 in
theorem nw_mx_min {o i : Nat} (h : nw_mx o i = some false) : Cond.methodLink (nw_R o) i Lib.Math.min.name ∈ nw_tb := by
  unfold nw_mx at h
  by_cases h0 : o = 5 ∧ i = 19
  · rw [if_pos h0] at h
    cases h
  rw [if_neg h0] at h
  by_cases h1 : o = 6 ∧ i = 9
  · rw [if_pos h1] at h
    obtain ⟨rfl, rfl⟩ := h1
    exact nw_in (i := 48) rfl rfl
  rw [if_neg h1] at h
  by_cases h2 : o = 6 ∧ i = 15
  · rw [if_pos h2] at h
    cases h
  rw [if_neg h2] at h
  cases h
set_option maxRecDepth 20000 in
theorem nw_mw_min : Cond.static Lib.Math.min.name ∈ nw_tb ∧ Cond.initialized "java/lang/Math" ∈ nw_tb ∧ Cond.code Lib.Math.min.name Lib.Math.min.code 2 (some .int) ∈ nw_tb := ⟨nw_in (i := 49) rfl rfl, nw_in (i := 31) rfl rfl, nw_in (i := 50) rfl rfl⟩
def nw_k (o i : Nat) : Option Int32 := if o = 6 ∧ i = 89 then some 1000000 else if o = 7 ∧ i = 134 then some 1000000 else none
set_option maxRecDepth 20000 in
theorem nw_k_ok {o i : Nat} {v : Int32} (h : nw_k o i = some v) : Cond.constant (nw_R o) i v ∈ nw_tb := by
  unfold nw_k at h
  by_cases h0 : o = 6 ∧ i = 89
  · rw [if_pos h0] at h
    obtain ⟨rfl, rfl⟩ := h0
    cases h
    exact nw_in (i := 294) rfl rfl
  rw [if_neg h0] at h
  by_cases h1 : o = 7 ∧ i = 134
  · rw [if_pos h1] at h
    obtain ⟨rfl, rfl⟩ := h1
    cases h
    exact nw_in (i := 659) rfl rfl
  rw [if_neg h1] at h
  cases h
def nw_kl (o i : Nat) : Option Int64 := if o = 8 ∧ i = 36 then some 255 else if o = 10 ∧ i = 21 then some 4294967295 else none
set_option maxRecDepth 20000 in
theorem nw_kl_ok {o i : Nat} {v : Int64} (h : nw_kl o i = some v) : Cond.constantLong (nw_R o) i v ∈ nw_tb := by
  unfold nw_kl at h
  by_cases h0 : o = 8 ∧ i = 36
  · rw [if_pos h0] at h
    obtain ⟨rfl, rfl⟩ := h0
    cases h
    exact nw_in (i := 286) rfl rfl
  rw [if_neg h0] at h
  by_cases h1 : o = 10 ∧ i = 21
  · rw [if_pos h1] at h
    obtain ⟨rfl, rfl⟩ := h1
    cases h
    exact nw_in (i := 793) rfl rfl
  rw [if_neg h1] at h
  cases h
def nw_an (o i : Nat) : Option Nat := if o = 6 ∧ i = 22 then some 20 else if o = 4 ∧ i = 54 then some 22 else if o = 6 ∧ i = 31 then some 21 else none
def nw_anC (kd : Nat) : String := if kd = 20 then "NewsFlood$Server" else if kd = 21 then "NewsFlood$Article" else "NewsFlood$Backlog"
set_option maxRecDepth 20000 in
theorem nw_an_ok {o i kd : Nat} (h : nw_an o i = some kd) : Cond.classLink (nw_R o) i (nw_anC kd) ∈ nw_tb ∧ (kd = 20 ∨ kd = 21 ∨ kd = 22) := by
  unfold nw_an at h
  by_cases h0 : o = 6 ∧ i = 22
  · rw [if_pos h0] at h
    obtain ⟨rfl, rfl⟩ := h0
    cases h
    exact ⟨nw_in (i := 54) rfl rfl, by decide⟩
  rw [if_neg h0] at h
  by_cases h1 : o = 4 ∧ i = 54
  · rw [if_pos h1] at h
    obtain ⟨rfl, rfl⟩ := h1
    cases h
    exact ⟨nw_in (i := 118) rfl rfl, by decide⟩
  rw [if_neg h1] at h
  by_cases h2 : o = 6 ∧ i = 31
  · rw [if_pos h2] at h
    obtain ⟨rfl, rfl⟩ := h2
    cases h
    exact ⟨nw_in (i := 182) rfl rfl, by decide⟩
  rw [if_neg h2] at h
  cases h
def nw_tg (pc : Nat) (off : Int) : Option Nat := if 0 ≤ (pc : Int) + off then some ((pc : Int) + off).toNat else none
set_option maxRecDepth 20000 in
theorem nw_tg_ok {pc t : Nat} {off : Int} (h : nw_tg pc off = some t) : (pc : Int) + off = (t : Int) := by
  unfold nw_tg at h
  split at h
  · have := Option.some.inj h
    omega
  · cases h
set_option maxRecDepth 20000 in
theorem nw_good {M : nw_M} (h : nw_mok M) : GoodIn nw_tb (Cond.code (nw_y M) (nw_cc M) (nw_ml M) (nw_rt M) :: nw_tb) := fun w hw => by
  have hm : w ∈ nw_tb := by
    rcases List.mem_cons.mp hw with e | e
    · rw [e]; exact h.2.2.1
    · exact e
  exact ⟨hm, good_of_word (List.mem_filter.mp hm).2⟩
def nw_okc (M M' : nw_M) : Bool := Nat.ble (nw_fr M' + 1) (nw_fr M) && Nat.ble (8 + (nw_ml M' + 11) + nw_lo M') (nw_lo M)
set_option maxRecDepth 20000 in
theorem nw_okc_ok {M M' : nw_M} {R : Room} (h : nw_okc M M' = true) (h1 : nw_fr M ≤ R.frames) (h2 : nw_lo M ≤ R.locals) : nw_fr M' + 1 ≤ R.frames ∧ 8 + (nw_ml M' + 11) + nw_lo M' ≤ R.locals := by
  unfold nw_okc at h
  rw [Bool.and_eq_true] at h
  exact ⟨Nat.le_trans (Nat.le_of_ble_eq_true h.1) h1, Nat.le_trans (Nat.le_of_ble_eq_true h.2) h2⟩
