/-! calls: V at the callee's entry is the callee's contract -/
def nw_flat : List Value → List Value
  | [] => []
  | v :: r => if v.category = 2 then v :: nw_u :: nw_flat r else v :: nw_flat r
def nw_ent (M : nw_M) (As : List Value) : List Value := nw_flat As ++ List.replicate (nw_ml M - (nw_flat As).length) nw_u
def nw_Pc (As : List Value) (w : nw_W) (D : va_G) (dA : Nat → ClassId) (b base : Nat) : Array Value → State → Prop := fun v U => v = (As.map (nw_ph b base)).toArray ∧ nw_Rep D dA b base w U U.heap ∧ va_K D nw_cl (nw_tys dA) U ∧ nw_AO U
def nw_Qc (Q : Option Value → nw_W → Prop) (D : va_G) (dA : Nat → ClassId) (b base : Nat) : Array Value → State → Outcome → State → Prop := fun _ _ o t => ∃ (r : Option Value) (w' : nw_W), o = .returned (r.map (nw_ph b base)) ∧ Q r w' ∧ nw_Rep D dA b base w' t t.heap
abbrev nw_ws (M : nw_M) : List Cond := Cond.code (nw_y M) (nw_cc M) (nw_ml M) (nw_rt M) :: nw_tb
abbrev nw_rm (M : nw_M) (mc ms : Nat) : Room := { frames := nw_fr M, cells := mc, slots := ms, locals := nw_lo M }
theorem nw_sl_len (b base : Nat) : ∀ As : List Value, (lg_sl (As.map (nw_ph b base))).length = (nw_flat As).length
  | [] => rfl
  | v :: r => by
    have ih := nw_sl_len b base r
    simp only [lg_sl, List.map_cons, List.flatMap_cons, List.length_append, nw_ph_cat] at ih ⊢
    unfold nw_flat
    by_cases h : v.category = 2
    · rw [if_pos h, if_pos h]
      simp [ih]; omega
    · rw [if_neg h, if_neg h]
      simp [ih]; omega
/-- a value that isn't set is never an argument -/
def nw_okA (As : List Value) : Prop := ∀ v ∈ As, v ≠ nw_u
theorem nw_ent_at : ∀ (As : List Value) (i n k : Nat) (v : Value), nw_at (nw_flat As ++ List.replicate n nw_u) k = some v → v ≠ nw_u → ∀ (b base : Nat), (i + k, nw_ph b base v) ∈ lv_args i (As.map (nw_ph b base))
  | [], i, n, k, v, h, hv, b, base => by
    exfalso
    simp only [nw_flat, List.nil_append] at h
    have : ∀ (n k : Nat), nw_at (List.replicate n nw_u) k = some v → False := by
      intro n
      induction n with
      | zero => intro k h; simp [nw_at] at h
      | succ n ih =>
        intro k h
        cases k with
        | zero =>
          simp [List.replicate_succ, nw_at] at h
          exact hv h.symm
        | succ k => exact ih k (by simpa [List.replicate_succ, nw_at] using h)
    exact this n k h
  | x :: r, i, n, k, v, h, hv, b, base => by
    unfold nw_flat at h
    simp only [List.map_cons, lv_args, nw_ph_cat]
    by_cases hx : x.category = 2
    · rw [if_pos hx] at h ⊢
      cases k with
      | zero =>
        simp [nw_at] at h
        rw [h]
        exact List.mem_cons_self
      | succ k =>
        cases k with
        | zero =>
          simp [nw_at] at h
          exact absurd h.symm hv
        | succ k =>
          have := nw_ent_at r (i + 2) n k v (by simpa [nw_at] using h) hv b base
          rw [show i + (k + 1 + 1) = i + 2 + k by omega]
          exact List.mem_cons_of_mem _ this
    · rw [if_neg hx] at h ⊢
      cases k with
      | zero =>
        simp [nw_at] at h
        rw [h]
        exact List.mem_cons_self
      | succ k =>
        have := nw_ent_at r (i + 1) n k v (by simpa [nw_at] using h) hv b base
        rw [show i + (k + 1) = i + 1 + k by omega]
        exact List.mem_cons_of_mem _ this
theorem nw_loc_entry {M : nw_M} {As : List Value} (hlen : (nw_flat As).length ≤ nw_ml M) (b base : Nat) : nw_loc b base (nw_ml M) ((lg_sl (As.map (nw_ph b base)) ++ List.replicate (nw_ml M - (lg_sl (As.map (nw_ph b base))).length) Slot.unset).toArray) (nw_ent M As) := by
  have h := lv_entry (As.map (nw_ph b base)) (n := nw_ml M) (by rw [nw_sl_len]; exact hlen)
  refine ⟨by unfold nw_ent; rw [List.length_append, List.length_replicate]; omega, h.1, h.2.1, fun q hq => ?_⟩
  obtain ⟨k, v, h1, h2, h3⟩ := (nw_as_mem _ 0).mp hq
  refine h.2.2 q ?_
  rw [h3]
  exact nw_ent_at As 0 _ k v h1 h2 b base
theorem nw_met {M : nw_M} (hM : nw_mok M) {As : List Value} {w : nw_W} {mc ms : Nat} {Q : Option Value → nw_W → Prop} (hlen : (nw_flat As).length ≤ nw_ml M) (h : V M 0 (nw_ent M As) [] w mc ms Q) (l : Launch) (D : va_G) (dA : Nat → ClassId) (b base : Nat) :
    Met l (nw_y M) (nw_ws M) (nw_rm M mc ms) (nw_Pc As w D dA b base) (nw_Qc Q D dA b base) mc ms (fun q => base ≤ q) := by
  refine Met.ofW (cc := nw_cc M) (maxL := nw_ml M) (ret := nw_rt M) hM.1 rfl ?_
  intro p e s m args below meth c s₁ B hml hv
  obtain ⟨rfl, hR, hK, hAO⟩ := hv
  have hts := atoms_spec (ws := nw_ws M) B.pre
  have hown : s.vm.findClass (nw_y M).cls = some m.cls := findClass_of_methodNamed B.named
  rw [hM.2.1] at hown
  have hnm : meth.name = (nw_y M).name := (name_of_methodNamed B.named B.method).1
  have hlocks := B.notSynchronized
  rw [lg_entry_eq]
  refine h p l e _ s m _ below meth c s.heap [] 0 0 _ _ D dA b base ⟨B.exec, B.bytes, hml, hown, fun w hw => hts w (List.mem_cons_of_mem _ hw), hnm, hK, Nat.le_refl _, Nat.le_refl _, hAO⟩ hR (fun q hq => by cases hq) (nw_loc_entry hlen b base) (by show 0 + mc ≤ mc; omega) (by show 0 + ms ≤ ms; omega) ?_
  intro r w' H' locs' pc' ls' i hi hd hq hR' hlo'
  rw [Nat.zero_add, Nat.zero_add]
  rcases hi with ⟨rfl, rfl, hrt⟩ | ⟨v, ty, rfl, rfl, hrt, hn⟩
  · exact W.vret B.exec B.bytes (B.returns.trans hrt) (fun t ht hW => ⟨none, w', rfl, hq, by rw [ht]; exact hR'.moved hW.alike⟩) hlo' hd
  · exact W.zret B.exec B.bytes (B.returns.trans hrt) hn (fun t ht hW => ⟨some (.int v), w', rfl, hq, by rw [ht]; exact hR'.moved hW.alike⟩) hlo' hd
/-- behind a call -/
theorem nw_back {M : nw_M} {pc : Nat} {lv rest : List Value} {bc bs mc ms : Nat} {Q : Option Value → nw_W → Prop} {p : Program} {l : Launch} {e : Env} {R : Room} {s : State} {m : MethodId} {args : Array Value} {below : List Frame} {meth : Method} {c : Code} {H : Heap} {locs : List Loc} {cells slots : Nat} {Z : State → Prop} {ls : Array Slot} {D : va_G} {dA : Nat → ClassId} {b base : Nat} {st0 : List Value} {a9 : Array Value}
    (hM : nw_Mach M p R s m args meth c D dA) (hlo : ∀ q ∈ locs, base ≤ q.base) (hl : nw_loc b base (nw_ml M) ls lv) (hc : cells + bc ≤ R.cells) (hs : slots + bs ≤ R.slots) (h1 : mc ≤ bc) (h2 : ms ≤ bs)
    (hr : ∀ (r : Option Value) (w' : nw_W) (H' : Heap) (locs' : List Loc) (pc' : Nat) (ls' : Array Slot) (i : Instr), nw_ri M i r → decode (nw_cc M) pc' = .ok (i, 1) → Q r w' → nw_Rep D dA b base w' s H' → (∀ q ∈ locs', base ≤ q.base) →
      W p l e R s m args below meth c H' locs' (cells + bc) (slots + bs) Z (F0 m pc' ls' (r.toList.map (nw_ph b base))))
    (hrun : va_Run p l e R s m args below meth c H locs cells slots mc ms (F0 m pc ls st0) (rest.map (nw_ph b base)) (nw_Qc (fun r w' => V M (pc + 3) lv (r.toList ++ rest) w' (bc - mc) (bs - ms) Q) D dA b base a9) (fun q => base ≤ q)) :
    W p l e R s m args below meth c H locs cells slots Z (F0 m pc ls st0) := by
  intro T hT X
  obtain ⟨v, st₀, t, T', L, h0, X', hL, e1, e2, ⟨r, w', hv, hq, hrep⟩, stp⟩ := hrun T hT X
  have hv : v = r.map (nw_ph b base) := by cases hv; rfl
  subst hv
  have k2 : cells + mc + (bc - mc) = cells + bc := by omega
  have k3 : slots + ms + (bs - ms) = slots + bs := by omega
  have hal : s.vm.Alike t.vm := by rw [← e2]; exact X'.warmed.alike
  have hrep' : nw_Rep D dA b base w' s T'.heap := by rw [e1]; exact hrep.moved hal.symm
  obtain ⟨t2, a1, b1⟩ := hq p l e R s m args below meth c T'.heap (locs ++ L) (cells + mc) (slots + ms) Z ls D dA b base hM hrep' (fun q hq => by
    rcases List.mem_append.mp hq with h | h
    · exact hlo q h
    · exact hL q h) hl (by omega) (by omega) (by rw [k2, k3]; exact hr) T' rfl X'
  refine ⟨t2, stp t2 ?_, b1⟩
  have e9 : (r.map (nw_ph b base)).toList ++ rest.map (nw_ph b base) = (r.toList ++ rest).map (nw_ph b base) := by cases r <;> simp
  show Steps p.tables e below (T'.setTop (F0 m (pc + 3) ls ((r.map (nw_ph b base)).toList ++ rest.map (nw_ph b base)))) t2
  rw [e9]
  exact a1
theorem nw_blind {As : List Value} {w : nw_W} {D : va_G} {dA : Nat → ClassId} {b base : Nat} : FrameBlind (nw_Pc As w D dA b base) := by
  intro a U g mk h
  obtain ⟨h1, h2, h3, h4⟩ := h
  exact ⟨h1, h2.moved (u := U) (U := U.calling g mk a) (Vm.Alike.refl U.vm), va_K.moved (u := U) (U := U.calling g mk a) (Vm.Alike.refl U.vm) h3, nw_AO.moved (u := U) (U := U.calling g mk a) (Vm.Alike.refl U.vm) h4⟩
section NWC
variable {M M' : nw_M} {pc idx : Nat} {lv As rest : List Value} {w : nw_W} {bc bs mc ms : Nat} {Q : Option Value → nw_W → Prop}
theorem V_callS (hd : decode (nw_cc M) pc = .ok (.invokestatic idx, 3)) (hf : nw_ca (nw_on M) idx = some (M', 1)) (hok : nw_okc M M' = true) (hn : As.length = nw_np M') (hlen : (nw_flat As).length ≤ nw_ml M') (hcat : (rest.map fun v => v.category).sum ≤ 8) (h1 : mc ≤ bc) (h2 : ms ≤ bs)
    (h : V M' 0 (nw_ent M' As) [] w mc ms (fun r w' => V M (pc + 3) lv (r.toList ++ rest) w' (bc - mc) (bs - ms) Q)) : V M pc lv (As.reverse ++ rest) w bc bs Q := by
  obtain ⟨hmk, hlk, hnp, hst⟩ := nw_ca_S hf
  intro p l e R s m args below meth c H locs cells slots Z ls D dA b base hM hR hlo hl hc hs hr
  have hts := hM.2.2.2.2.1
  have hroom := nw_okc_ok hok hM.2.2.2.2.2.2.2.1 hM.2.2.2.2.2.2.2.2.1
  refine nw_back hM hlo hl hc hs h1 h2 hr (va_runS (As := As.map (nw_ph b base)) ⟨hM.1, hM.2.1, hM.2.2.1, hM.2.2.2.1, hts⟩ (nw_met hmk hlen h l D dA b base)
    ⟨callB_of (nw_np M') hts (nw_good hmk) rfl rfl rfl (hts _ hmk.2.2.2.1) (hts _ hlk) ⟨hmk.2.2.2.2.1, hmk.2.2.2.2.2, hnp⟩ hroom, hts _ hst⟩
    ⟨nw_blind, fun U hU hW => ⟨rfl, by rw [hU]; exact hR.moved hW.alike, va_K.moved hW.alike hM.2.2.2.2.2.2.1, nw_AO.moved hW.alike hM.2.2.2.2.2.2.2.2.2⟩⟩ rfl (by rw [List.length_map]; exact hn) hl.2.1 (by show (As.reverse ++ rest).map _ = _; rw [List.map_append, List.map_reverse]) (lv_room (by rw [nw_cat_map]; exact hcat)) hd ⟨by omega, by omega⟩)
theorem V_callV {a : Nat} (hd : decode (nw_cc M) pc = .ok (.invokevirtual idx, 3)) (hf : nw_ca (nw_on M) idx = some (M', 0)) (hok : nw_okc M M' = true) (ho : nw_ob w a (nw_on M')) (hn : As.length = nw_np M') (hlen : (nw_flat (.ref a :: As)).length ≤ nw_ml M') (hcat : (rest.map fun v => v.category).sum ≤ 8) (h1 : mc ≤ bc) (h2 : ms ≤ bs)
    (h : V M' 0 (nw_ent M' (.ref a :: As)) [] w mc ms (fun r w' => V M (pc + 3) lv (r.toList ++ rest) w' (bc - mc) (bs - ms) Q)) : V M pc lv (As.reverse ++ .ref a :: rest) w bc bs Q := by
  obtain ⟨hmk, hlk, hnp, hin, hse, hc8⟩ := nw_ca_V hf
  obtain ⟨hcl, -⟩ := nw_cls hc8
  intro p l e R s m args below meth c H locs cells slots Z ls D dA b base hM hR hlo hl hc hs hr
  have hts := hM.2.2.2.2.1
  have hroom := nw_okc_ok hok hM.2.2.2.2.2.2.2.1 hM.2.2.2.2.2.2.2.2.1
  obtain ⟨cell, q1, q2, q3, -⟩ := (hR.2.2.2 a ho.2.1 ho.2.2).obj ho.1 hc8
  have hfc := (hM.2.2.2.2.2.2.1.1 _ _ hcl).2.1
  refine nw_back hM hlo hl hc hs h1 h2 hr (va_runV (C := nw_R (nw_on M')) (b := nw_ad b base a) (As := As.map (nw_ph b base)) ⟨hM.1, hM.2.1, hM.2.2.1, hM.2.2.2.1, hts⟩ (nw_met hmk hlen h l D dA b base)
    ⟨callB_of (nw_np M') hts (nw_good hmk) rfl rfl rfl (hts _ hmk.2.2.2.1) (hts _ hlk) ⟨hmk.2.2.2.2.1, hmk.2.2.2.2.2, hnp⟩ hroom, hts _ hin, hts _ hse⟩
    ⟨nw_blind, ⟨cell, q1, by rw [q3]; rfl, by rw [q2]; exact hfc⟩, fun U hU hW => ⟨rfl, by rw [hU]; exact hR.moved hW.alike, va_K.moved hW.alike hM.2.2.2.2.2.2.1, nw_AO.moved hW.alike hM.2.2.2.2.2.2.2.2.2⟩⟩ rfl (by rw [List.length_map]; exact hn) hl.2.1 (by show (As.reverse ++ .ref a :: rest).map _ = _; rw [List.map_append, List.map_reverse]; rfl) (lv_room (by rw [nw_cat_map]; exact hcat)) hd ⟨by omega, by omega⟩)
theorem V_callI {a : Nat} (hd : decode (nw_cc M) pc = .ok (.invokespecial idx, 3)) (hf : nw_ca (nw_on M) idx = some (M', 2)) (hok : nw_okc M M' = true) (hn : As.length = nw_np M') (hlen : (nw_flat (.ref a :: As)).length ≤ nw_ml M') (hcat : (rest.map fun v => v.category).sum ≤ 8) (h1 : mc ≤ bc) (h2 : ms ≤ bs)
    (h : V M' 0 (nw_ent M' (.ref a :: As)) [] w mc ms (fun r w' => V M (pc + 3) lv (r.toList ++ rest) w' (bc - mc) (bs - ms) Q)) : V M pc lv (As.reverse ++ .ref a :: rest) w bc bs Q := by
  obtain ⟨hmk, hlk, hnp, hin, hnm, hrt⟩ := nw_ca_I hf
  intro p l e R s m args below meth c H locs cells slots Z ls D dA b base hM hR hlo hl hc hs hr
  have hts := hM.2.2.2.2.1
  have hroom := nw_okc_ok hok hM.2.2.2.2.2.2.2.1 hM.2.2.2.2.2.2.2.2.1
  have hcb : CallB R s args (nw_R (nw_on M)) idx (nw_y M') (nw_cc M') (nw_ml M') (nw_rt M') (nw_ws M') (nw_rm M' mc ms) mc ms (nw_np M') := callB_of (nw_np M') hts (nw_good hmk) rfl rfl rfl (hts _ hmk.2.2.2.1) (hts _ hlk) ⟨hmk.2.2.2.2.1, hmk.2.2.2.2.2, hnp⟩ hroom
  have hcb2 : CallB R s args (nw_R (nw_on M)) idx (nw_y M') (nw_cc M') (nw_ml M') none (nw_ws M') (nw_rm M' mc ms) mc ms (nw_np M') := by
    rw [← hrt]
    exact hcb
  refine nw_back hM hlo hl hc hs h1 h2 hr (va_runI (b := nw_ad b base a) (As := As.map (nw_ph b base)) ⟨hM.1, hM.2.1, hM.2.2.1, hM.2.2.2.1, hts⟩ (nw_met hmk hlen h l D dA b base)
    ⟨hcb2, hnm, hts _ hin⟩
    ⟨nw_blind, fun U hU hW => ⟨rfl, by rw [hU]; exact hR.moved hW.alike, va_K.moved hW.alike hM.2.2.2.2.2.2.1, nw_AO.moved hW.alike hM.2.2.2.2.2.2.2.2.2⟩⟩ rfl (by rw [List.length_map]; exact hn) hl.2.1 (by show (As.reverse ++ .ref a :: rest).map _ = _; rw [List.map_append, List.map_reverse]; rfl) (lv_room (by rw [nw_cat_map]; exact hcat)) hd ⟨by omega, by omega⟩)
theorem V_mmax {x y : Int32} (hd : decode (nw_cc M) pc = .ok (.invokestatic idx, 3)) (hf : nw_mx (nw_on M) idx = some true) (h1 : 1 ≤ nw_fr M) (h2 : (rest.map fun v => v.category).sum + 13 ≤ nw_lo M) (k : V M (pc + 3) lv (.int (if x < y then y else x) :: rest) w bc bs Q) : V M pc lv (.int y :: .int x :: rest) w bc bs Q := by
  intro p l e R s m args below meth c H locs cells slots Z ls D dA b base hM hR hlo hl hc hs hr
  have hts := hM.2.2.2.2.1
  exact va_mmax hM.1 hM.2.1 (by rw [hM.2.2.1, hl.2.1]) hM.2.2.2.1 (hts _ (nw_mx_max hf)) (hts _ nw_mw_max.1) (hts _ nw_mw_max.2.1) (hts _ nw_mw_max.2.2) (Nat.le_trans h1 hM.2.2.2.2.2.2.2.1) (by rw [nw_cat_map]; exact Nat.le_trans h2 hM.2.2.2.2.2.2.2.2.1) (by omega) (by omega) hd (k p l e R s m args below meth c H locs cells slots Z ls D dA b base hM hR hlo hl hc hs hr)
theorem V_mmin {x y : Int32} (hd : decode (nw_cc M) pc = .ok (.invokestatic idx, 3)) (hf : nw_mx (nw_on M) idx = some false) (h1 : 1 ≤ nw_fr M) (h2 : (rest.map fun v => v.category).sum + 13 ≤ nw_lo M) (k : V M (pc + 3) lv (.int (if y < x then y else x) :: rest) w bc bs Q) : V M pc lv (.int y :: .int x :: rest) w bc bs Q := by
  intro p l e R s m args below meth c H locs cells slots Z ls D dA b base hM hR hlo hl hc hs hr
  have hts := hM.2.2.2.2.1
  exact va_mmin hM.1 hM.2.1 (by rw [hM.2.2.1, hl.2.1]) hM.2.2.2.1 (hts _ (nw_mx_min hf)) (hts _ nw_mw_min.1) (hts _ nw_mw_min.2.1) (hts _ nw_mw_min.2.2) (Nat.le_trans h1 hM.2.2.2.2.2.2.2.1) (by rw [nw_cat_map]; exact Nat.le_trans h2 hM.2.2.2.2.2.2.2.2.1) (by omega) (by omega) hd (k p l e R s m args below meth c H locs cells slots Z ls D dA b base hM hR hlo hl hc hs hr)
end NWC
