/-! the rows of the heap: fields, arrays, new cells -/
theorem nw_cell.obj {D : va_G} {dA : Nat → ClassId} {b base : Nat} {w : nw_W} {a ci : Nat} {H : Heap} (h : nw_cell D dA b base w a H) (hk : nw_kd w a = ci) (hc : ci < 8) : t_OB (nw_ad b base a) (D.1 ci) (nw_N ci) (D.2 ci) H (fun k => nw_ph b base (nw_fv w a ci k)) := by
  unfold nw_cell at h
  rw [hk] at h
  rcases h with h | ⟨h, -⟩ | ⟨h, -⟩ | ⟨h, -⟩
  · exact h.2
  all_goals omega
theorem nw_cell.ints {D : va_G} {dA : Nat → ClassId} {b base : Nat} {w : nw_W} {a kd : Nat} {H : Heap} (h : nw_cell D dA b base w a H) (hk : nw_kd w a = kd) (hc : kd = 16 ∨ kd = 18) : H[nw_ad b base a]? = some (arrV (dA kd) (nw_ln w a) (fun j => .int (nw_I w a j))) := by
  unfold nw_cell at h
  rw [hk] at h
  rcases h with ⟨h, -⟩ | h | ⟨h, -⟩ | ⟨h, h2, -⟩
  · omega
  · exact h.2
  all_goals omega
theorem nw_cell.longs {D : va_G} {dA : Nat → ClassId} {b base : Nat} {w : nw_W} {a : Nat} {H : Heap} (h : nw_cell D dA b base w a H) (hk : nw_kd w a = 17) : H[nw_ad b base a]? = some (arrV (dA 17) (nw_ln w a) (fun j => .long (nw_L w a j))) := by
  unfold nw_cell at h
  rw [hk] at h
  rcases h with ⟨h, -⟩ | ⟨h, -⟩ | h | ⟨h, h2, -⟩
  · omega
  · omega
  · exact h.2
  · omega
theorem nw_cell.refs {D : va_G} {dA : Nat → ClassId} {b base : Nat} {w : nw_W} {a kd : Nat} {H : Heap} (h : nw_cell D dA b base w a H) (hk : nw_kd w a = kd) (hc : 19 ≤ kd ∧ kd < 23) : H[nw_ad b base a]? = some (arrV (dA kd) (nw_ln w a) (fun j => nw_ph b base (va_rf (nw_rf w a j)))) := by
  unfold nw_cell at h
  rw [hk] at h
  rcases h with ⟨h, -⟩ | ⟨h, -⟩ | ⟨h, -⟩ | h
  · omega
  · omega
  · omega
  · exact h.2.2
section NWH
variable {M : nw_M} {pc : Nat} {lv st : List Value} {w : nw_W} {bc bs : Nat} {Q : Option Value → nw_W → Prop}
theorem V_getfield {idx a ci k : Nat} (hd : decode (nw_cc M) pc = .ok (.getfield idx, 3)) (hf : nw_fl (nw_on M) idx = some (ci, k)) (ho : nw_ob w a ci) (kk : V M (pc + 3) lv (nw_fv w a ci k :: st) w bc bs Q) : V M pc lv (.ref a :: st) w bc bs Q := by
  obtain ⟨hc8, hkN, hlk⟩ := nw_fl_ok hf
  obtain ⟨hcl, hin, hty, hnm, hins, hini⟩ := nw_cls hc8
  refine V_go (fun p l e R s m args below meth c H locs cells slots Z ls D dA b base hM hR hl kk => ?_) kk
  obtain ⟨cell, q1, q2, q3, q4⟩ := (hR.2.2.2 a ho.2.1 ho.2.2).obj ho.1 hc8
  obtain ⟨hS, hfc, kC, hkC, hkind⟩ := hM.2.2.2.2.2.2.1.1 ci _ hcl
  obtain ⟨cf, kf, fi, f, hi, hsl⟩ := hS k hkN
  exact W.getf hM.1 hM.2.1 hM.2.2.2.1 (hM.2.2.2.2.1 _ hlk) hi (u_facts hfc hkC (u_lays hM.2.2.2.2.1 hin hkN) hi).1 q1 (by rw [q3]; exact fun h => by cases h) (v := nw_ph b base (nw_fv w a ci k)) (by rw [hsl, q4 k hkN]) rfl rfl hd kk
/-- a field is written: the object's picture behind it -/
theorem nw_putW {p : Program} {l : Launch} {e : Env} {R : Room} {s : State} {m : MethodId} {args : Array Value} {below : List Frame} {meth : Method} {c : Code} {H : Heap} {locs : List Loc} {cells slots : Nat} {Z : State → Prop} {ls : Array Slot} {D : va_G} {dA : Nat → ClassId} {rest : List Value} {A0 idx ci k : Nat} {Vf : Nat → Value} {pv : Value}
    (hM : nw_Mach M p R s m args meth c D dA) (hd : decode (nw_cc M) pc = .ok (.putfield idx, 3)) (hf : nw_fl (nw_on M) idx = some (ci, k)) (hfin : (nw_T ci k).2.2.2 = false ∨ ((nw_y M).name = "<init>" ∧ nw_on M = ci)) (hn : narrow (nw_ty ci k) pv = pv) (hfit : fits (nw_ty ci k) pv = true)
    (hOB : t_OB A0 (D.1 ci) (nw_N ci) (D.2 ci) H Vf) (kk : ∀ (H1 : Heap) (sl : Nat), t_OB A0 (D.1 ci) (nw_N ci) (D.2 ci) H1 (updV Vf k pv) → H1.size = H.size → (∀ q, q ≠ A0 → H1[q]? = H[q]?) → W p l e R s m args below meth c H1 (locs ++ [⟨A0, sl⟩]) cells slots Z (F0 m (pc + 3) ls rest)) :
    W p l e R s m args below meth c H locs cells slots Z (F0 m pc ls (pv :: .ref A0 :: rest)) := by
  obtain ⟨hc8, hkN, hlk⟩ := nw_fl_ok hf
  obtain ⟨hcl, hin, hty, hnm, hins, hini⟩ := nw_cls hc8
  obtain ⟨hx, hb, hml, hown, hts, hname, hK, -, -⟩ := hM
  have hap := va_apart (own := nw_R (nw_on M)) hts hin (nw_ty ci) hty hnm hK hcl
  obtain ⟨cell, q1, q2, q3, q4⟩ := hOB
  obtain ⟨hS, hfc, kC, hkC, hkind⟩ := hK.1 ci _ hcl
  obtain ⟨cf, kf, fi, f, hi, hsl⟩ := hS k hkN
  have hlay := hts _ (hin _ (u_in_lay hkN))
  have hst := (u_facts hfc hkC (u_lays hts hin hkN) hi).1
  unfold u_lay at hlay
  by_cases hfl : (nw_T ci k).2.2.2 = true
  · rw [if_pos hfl] at hlay
    rcases hfin with h0 | ⟨hnm2, hon⟩
    · rw [h0] at hfl; cases hfl
    have hcf : m.cls = cf := by
      obtain ⟨_, _, c', _, _, _, -, -, hf', -, -, -, hown2, -⟩ := Cond.laysFinal_spec hlay
      have e1 : c' = cf := by have := hi.symm.trans hf'; simp at this; exact this.1.symm
      rw [nw_T_own hc8 hkN] at hown2
      rw [hon] at hown
      rw [← e1]; exact Option.some.inj (hown.symm.trans hown2)
    have h6 := u_fits hfc hkC hkind (Or.inr hlay) hi (hty k hkN) hn hfit
    refine W.putFinK hx hb hown (hts _ hlk) hi hst hcf (hname.trans hnm2) (by rw [q2]; exact h6) q1 q3 (by rw [hsl]; exact k2_hasslot (q4 k hkN)) rfl rfl hd fun H' e1 e2 e3 => ?_
    rw [hsl] at e1 ⊢
    exact kk H' _ ⟨_, e1, q2, q3, t_set q4 hap hkN pv⟩ e2 e3
  · rw [if_neg hfl] at hlay
    have h6 := u_store hfc hkC hkind hlay hi (hty k hkN) hn hfit
    refine W.putK hx hb (f := f) ⟨hown, hts _ hlk, ⟨_, _, _, hi⟩, hst⟩ (by rw [q2]; exact h6) q1 q3 (by rw [hsl]; exact k2_hasslot (q4 k hkN)) rfl rfl hd fun H' e1 e2 e3 => ?_
    rw [hsl] at e1 ⊢
    exact kk H' _ ⟨_, e1, q2, q3, t_set q4 hap hkN pv⟩ e2 e3
theorem nw_locs {base : Nat} {locs : List Loc} {x : Loc} (h : ∀ q ∈ locs, base ≤ q.base) (hx : base ≤ x.base) : ∀ q ∈ locs ++ [x], base ≤ q.base := fun q hq => by
  rcases List.mem_append.mp hq with h1 | h1
  · exact h q h1
  · rw [List.mem_singleton.mp h1]; exact hx
theorem V_putI {idx a ci k : Nat} {x : Int32} (hd : decode (nw_cc M) pc = .ok (.putfield idx, 3)) (hf : nw_fl (nw_on M) idx = some (ci, k)) (hfin : (nw_T ci k).2.2.2 = false ∨ ((nw_y M).name = "<init>" ∧ nw_on M = ci)) (ht : nw_isR (nw_ty ci k) = false) (hn : narrow (nw_ty ci k) (.int x) = .int x) (hfit : fits (nw_ty ci k) (.int x) = true) (ho : nw_ob w a ci)
    (kk : V M (pc + 3) lv st (nw_setI w a (upd (nw_I w a) k x)) bc bs Q) : V M pc lv (.int x :: .ref a :: st) w bc bs Q := by
  intro p l e R s m args below meth c H locs cells slots Z ls D dA b base hM hR hlo hl hc hs hr
  have hc8 := (nw_fl_ok hf).1
  refine nw_putW (pv := .int x) (A0 := nw_ad b base a) hM hd hf hfin hn hfit ((hR.2.2.2 a ho.2.1 ho.2.2).obj ho.1 hc8) fun H1 sl g1 g2 g3 => ?_
  refine kk p l e R s m args below meth c H1 _ cells slots Z ls D dA b base hM (hR.put ho.2.1 g2 g3 rfl (fun x hx => ⟨rfl, rfl, rfl, va_up_ne _ _ hx, rfl⟩) ?_) (nw_locs hlo ?_) hl hc hs hr
  · refine Or.inl ⟨by show nw_kd w a < 8; rw [ho.1]; exact hc8, ?_⟩
    show t_OB _ (D.1 (nw_kd w a)) (nw_N (nw_kd w a)) (D.2 (nw_kd w a)) H1 _
    rw [ho.1]
    refine g1.to fun j hj => ?_
    by_cases hjk : j = k
    · subst hjk
      rw [nw_kd_I, ho.1]
      unfold nw_fv
      rw [if_neg (by rw [ht]; decide), nw_I_I, va_up_self]
      simp [updV, upd, nw_ph]
    · rw [nw_kd_I, ho.1]
      unfold nw_fv
      rw [nw_I_I, va_up_self, nw_rf_I]
      simp [updV, upd, hjk]
  · show base ≤ nw_ad b base a
    rw [nw_ad_1 ho.2.1]; omega
theorem V_putR {idx a ci k r : Nat} (hd : decode (nw_cc M) pc = .ok (.putfield idx, 3)) (hf : nw_fl (nw_on M) idx = some (ci, k)) (hfin : (nw_T ci k).2.2.2 = false ∨ ((nw_y M).name = "<init>" ∧ nw_on M = ci)) (ht : nw_isR (nw_ty ci k) = true) (ho : nw_ob w a ci)
    (kk : V M (pc + 3) lv st (nw_setR w a (va_up (nw_rf w a) k (some r))) bc bs Q) : V M pc lv (.ref r :: .ref a :: st) w bc bs Q := by
  intro p l e R s m args below meth c H locs cells slots Z ls D dA b base hM hR hlo hl hc hs hr
  have hc8 := (nw_fl_ok hf).1
  refine nw_putW (pv := .ref (nw_ad b base r)) (A0 := nw_ad b base a) hM hd hf hfin (nw_nar_ref ht) (nw_fit_ref ht) ((hR.2.2.2 a ho.2.1 ho.2.2).obj ho.1 hc8) fun H1 sl g1 g2 g3 => ?_
  refine kk p l e R s m args below meth c H1 _ cells slots Z ls D dA b base hM (hR.put ho.2.1 g2 g3 rfl (fun x hx => ⟨rfl, rfl, va_up_ne _ _ hx, rfl, rfl⟩) ?_) (nw_locs hlo ?_) hl hc hs hr
  · refine Or.inl ⟨by show nw_kd w a < 8; rw [ho.1]; exact hc8, ?_⟩
    show t_OB _ (D.1 (nw_kd w a)) (nw_N (nw_kd w a)) (D.2 (nw_kd w a)) H1 _
    rw [ho.1]
    refine g1.to fun j hj => ?_
    by_cases hjk : j = k
    · subst hjk
      rw [nw_kd_R, ho.1]
      unfold nw_fv
      rw [if_pos ht, nw_rf_R, va_up_self, va_up_self]
      simp [updV, va_rf, nw_ph]
    · rw [nw_kd_R, ho.1]
      unfold nw_fv
      rw [nw_rf_R, va_up_self, nw_I_R, va_up_ne _ _ hjk]
      simp [updV, hjk]
  · show base ≤ nw_ad b base a
    rw [nw_ad_1 ho.2.1]; omega
-- arrays
theorem V_iaload {a : Nat} {i : Int32} (hd : decode (nw_cc M) pc = .ok (.iaload, 1)) (ho : nw_ob w a 16) (hin : vp_in i (nw_ln w a)) (kk : V M (pc + 1) lv (.int (nw_I w a i.toNatClampNeg) :: st) w bc bs Q) : V M pc lv (.int i :: .ref a :: st) w bc bs Q := by
  refine V_go (fun p l e R s m args below meth c H locs cells slots Z ls D dA b base hM hR hl kk => ?_) kk
  have hcell := (hR.2.2.2 a ho.2.1 ho.2.2).ints ho.1 (Or.inl rfl)
  have hlt : i.toNatClampNeg < nw_ln w a := Nat.not_le.mp fun q => hin (Or.inr q)
  exact W.iald (v := .int (nw_I w a i.toNatClampNeg)) hM.1 hM.2.1 hcell ((hM.2.2.2.2.2.2.1.2 0 _ rfl).1 (nw_ln w a) (fun j => .int (nw_I w a j))) (fun q => by cases q) (by show ¬ (i < 0 ∨ (arrV _ _ _).slots.size ≤ _); rw [arrV_size]; exact hin) (by show (arrV _ _ _).slots[_]? = _; rw [arrV_read _ _ hlt]) rfl rfl hd kk
/-- the script's own cell -/
theorem V_iaload0 {i : Int32} (hd : decode (nw_cc M) pc = .ok (.iaload, 1)) (hin : vp_in i (nw_ln w 0)) (kk : V M (pc + 1) lv (.int (nw_I w 0 i.toNatClampNeg) :: st) w bc bs Q) : V M pc lv (.int i :: .ref 0 :: st) w bc bs Q := by
  refine V_go (fun p l e R s m args below meth c H locs cells slots Z ls D dA b base hM hR hl kk => ?_) kk
  obtain ⟨scr, g1, g2, g3, g4, g5⟩ := hR.2.2.1
  have hlt : i.toNatClampNeg < nw_ln w 0 := Nat.not_le.mp fun q => hin (Or.inr q)
  exact W.iald (a := b) (v := .int (nw_I w 0 i.toNatClampNeg)) hM.1 hM.2.1 g1 g2 g3 (by rw [g4]; exact hin) (g5 _ hlt) rfl rfl hd kk
theorem V_alen0 (hd : decode (nw_cc M) pc = .ok (.arraylength, 1)) (kk : V M (pc + 1) lv (.int (nI (nw_ln w 0)) :: st) w bc bs Q) : V M pc lv (.ref 0 :: st) w bc bs Q := by
  refine V_go (fun p l e R s m args below meth c H locs cells slots Z ls D dA b base hM hR hl kk => ?_) kk
  obtain ⟨scr, g1, g2, g3, g4, g5⟩ := hR.2.2.1
  exact W.alen (a := b) (n := nI (nw_ln w 0)) hM.1 hM.2.1 g1 g2 (by rw [g4]; rfl) rfl rfl hd kk
theorem V_baload {a : Nat} {i : Int32} (hd : decode (nw_cc M) pc = .ok (.baload, 1)) (ho : nw_ob w a 18) (hin : vp_in i (nw_ln w a)) (kk : V M (pc + 1) lv (.int (nw_I w a i.toNatClampNeg) :: st) w bc bs Q) : V M pc lv (.int i :: .ref a :: st) w bc bs Q := by
  refine V_go (fun p l e R s m args below meth c H locs cells slots Z ls D dA b base hM hR hl kk => ?_) kk
  have hcell := (hR.2.2.2 a ho.2.1 ho.2.2).ints ho.1 (Or.inr rfl)
  have hlt : i.toNatClampNeg < nw_ln w a := Nat.not_le.mp fun q => hin (Or.inr q)
  exact W.zald (v := .int (nw_I w a i.toNatClampNeg)) hM.1 hM.2.1 hcell ((hM.2.2.2.2.2.2.1.2 2 _ rfl).1 (nw_ln w a) (fun j => .int (nw_I w a j))) (fun q => by cases q) (by show ¬ (i < 0 ∨ (arrV _ _ _).slots.size ≤ _); rw [arrV_size]; exact hin) (by show (arrV _ _ _).slots[_]? = _; rw [arrV_read _ _ hlt]) rfl rfl hd kk
theorem V_laload {a : Nat} {i : Int32} (hd : decode (nw_cc M) pc = .ok (.laload, 1)) (ho : nw_ob w a 17) (hin : vp_in i (nw_ln w a)) (kk : V M (pc + 1) lv (.long (nw_L w a i.toNatClampNeg) :: st) w bc bs Q) : V M pc lv (.int i :: .ref a :: st) w bc bs Q := by
  refine V_go (fun p l e R s m args below meth c H locs cells slots Z ls D dA b base hM hR hl kk => ?_) kk
  have hcell := (hR.2.2.2 a ho.2.1 ho.2.2).longs ho.1
  have hlt : i.toNatClampNeg < nw_ln w a := Nat.not_le.mp fun q => hin (Or.inr q)
  exact W.lald (v := .long (nw_L w a i.toNatClampNeg)) hM.1 hM.2.1 hcell ((hM.2.2.2.2.2.2.1.2 1 _ rfl).1 (nw_ln w a) (fun j => .long (nw_L w a j))) (fun q => by cases q) (by show ¬ (i < 0 ∨ (arrV _ _ _).slots.size ≤ _); rw [arrV_size]; exact hin) (by show (arrV _ _ _).slots[_]? = _; rw [arrV_read _ _ hlt]) rfl rfl hd kk
theorem V_aaload {a kd : Nat} {i : Int32} (hd : decode (nw_cc M) pc = .ok (.aaload, 1)) (ho : nw_ob w a kd) (hkd : 19 ≤ kd ∧ kd < 23) (hin : vp_in i (nw_ln w a)) (kk : V M (pc + 1) lv (va_rf (nw_rf w a i.toNatClampNeg) :: st) w bc bs Q) : V M pc lv (.int i :: .ref a :: st) w bc bs Q := by
  refine V_go (fun p l e R s m args below meth c H locs cells slots Z ls D dA b base hM hR hl kk => ?_) kk
  have hcell := (hR.2.2.2 a ho.2.1 ho.2.2).refs ho.1 hkd
  have hlt : i.toNatClampNeg < nw_ln w a := Nat.not_le.mp fun q => hin (Or.inr q)
  obtain ⟨ty, hty, htr⟩ : ∃ ty : FieldType, (nw_tys dA)[kd - 16]? = some (dA kd, ty) ∧ ty.isReference = true := by
    rcases (show kd = 19 ∨ kd = 20 ∨ kd = 21 ∨ kd = 22 by omega) with rfl | rfl | rfl | rfl
    · exact ⟨_, rfl, rfl⟩
    · exact ⟨_, rfl, rfl⟩
    · exact ⟨_, rfl, rfl⟩
    · exact ⟨_, rfl, rfl⟩
  exact W.aald (v := nw_ph b base (va_rf (nw_rf w a i.toNatClampNeg))) (ty := ty) hM.1 hM.2.1 hcell ((hM.2.2.2.2.2.2.1.2 _ _ hty).1 (nw_ln w a) (fun j => nw_ph b base (va_rf (nw_rf w a j)))) htr (fun q => by cases q) (by show ¬ (i < 0 ∨ (arrV _ _ _).slots.size ≤ _); rw [arrV_size]; exact hin) (by show (arrV _ _ _).slots[_]? = _; rw [arrV_read _ _ hlt]) rfl rfl hd kk
theorem V_alen {a kd : Nat} (hd : decode (nw_cc M) pc = .ok (.arraylength, 1)) (ho : nw_ob w a kd) (hkd : 16 ≤ kd ∧ kd < 23) (kk : V M (pc + 1) lv (.int (nI (nw_ln w a)) :: st) w bc bs Q) : V M pc lv (.ref a :: st) w bc bs Q := by
  refine V_go (fun p l e R s m args below meth c H locs cells slots Z ls D dA b base hM hR hl kk => ?_) kk
  obtain ⟨f, hcell⟩ : ∃ f : Nat → Value, H[nw_ad b base a]? = some (arrV (dA kd) (nw_ln w a) f) := by
    have h0 := hR.2.2.2 a ho.2.1 ho.2.2
    by_cases h1 : kd = 16 ∨ kd = 18
    · exact ⟨_, h0.ints ho.1 h1⟩
    · by_cases h2 : kd = 17
      · subst h2; exact ⟨_, h0.longs ho.1⟩
      · exact ⟨_, h0.refs ho.1 (by omega)⟩
  obtain ⟨ty, hty⟩ : ∃ ty : FieldType, (nw_tys dA)[kd - 16]? = some (dA kd, ty) := by
    rcases (show kd = 16 ∨ kd = 17 ∨ kd = 18 ∨ kd = 19 ∨ kd = 20 ∨ kd = 21 ∨ kd = 22 by omega) with rfl | rfl | rfl | rfl | rfl | rfl | rfl <;> exact ⟨_, rfl⟩
  exact W.alen (n := nI (nw_ln w a)) hM.1 hM.2.1 hcell ((hM.2.2.2.2.2.2.1.2 _ _ hty).1 (nw_ln w a) f) (by show (arrV _ _ _).slots.size.toInt32 = _; rw [arrV_size]; rfl) rfl rfl hd kk
theorem V_iastore {a : Nat} {i x : Int32} (hd : decode (nw_cc M) pc = .ok (.iastore, 1)) (ho : nw_ob w a 16) (hin : vp_in i (nw_ln w a)) (kk : V M (pc + 1) lv st (nw_setI w a (upd (nw_I w a) i.toNatClampNeg x)) bc bs Q) : V M pc lv (.int x :: .int i :: .ref a :: st) w bc bs Q := by
  intro p l e R s m args below meth c H locs cells slots Z ls D dA b base hM hR hlo hl hc hs hr
  have hcell := (hR.2.2.2 a ho.2.1 ho.2.2).ints ho.1 (Or.inl rfl)
  refine W.iast (a := nw_ad b base a) hM.1 hM.2.1 hcell ((hM.2.2.2.2.2.2.1.2 0 _ rfl).1 (nw_ln w a) (fun j => .int (nw_I w a j))) (fun q => by cases q) (by show ¬ (i < 0 ∨ (arrV _ _ _).slots.size ≤ _); rw [arrV_size]; exact hin) rfl rfl hd fun H1 g1 g2 g3 => ?_
  refine kk p l e R s m args below meth c H1 _ cells slots Z ls D dA b base hM (hR.put ho.2.1 g2 g3 rfl (fun x hx => ⟨rfl, rfl, rfl, va_up_ne _ _ hx, rfl⟩) ?_) (nw_locs hlo ?_) hl hc hs hr
  · refine Or.inr (Or.inl ⟨Or.inl ho.1, ?_⟩)
    show H1[nw_ad b base a]? = some (arrV (dA (nw_kd w a)) (nw_ln w a) _)
    rw [ho.1, g1, arrV_store, nw_I_I, va_up_self]
    refine congrArg (fun f => some (arrV (dA 16) (nw_ln w a) f)) (funext fun q => ?_)
    by_cases hq : q = i.toNatClampNeg
    · subst hq
      simp [updV, upd]
    · simp [updV, upd, hq]
  · show base ≤ nw_ad b base a
    rw [nw_ad_1 ho.2.1]; omega
theorem V_bastore {a : Nat} {i x : Int32} (hd : decode (nw_cc M) pc = .ok (.bastore, 1)) (ho : nw_ob w a 18) (hin : vp_in i (nw_ln w a)) (hn : narrow .boolean (.int x) = .int x) (kk : V M (pc + 1) lv st (nw_setI w a (upd (nw_I w a) i.toNatClampNeg x)) bc bs Q) : V M pc lv (.int x :: .int i :: .ref a :: st) w bc bs Q := by
  intro p l e R s m args below meth c H locs cells slots Z ls D dA b base hM hR hlo hl hc hs hr
  have hcell := (hR.2.2.2 a ho.2.1 ho.2.2).ints ho.1 (Or.inr rfl)
  refine W.zast (a := nw_ad b base a) hM.1 hM.2.1 hcell ((hM.2.2.2.2.2.2.1.2 2 _ rfl).1 (nw_ln w a) (fun j => .int (nw_I w a j))) (fun q => by cases q) (by show ¬ (i < 0 ∨ (arrV _ _ _).slots.size ≤ _); rw [arrV_size]; exact hin) rfl rfl hd fun H1 g1 g2 g3 => ?_
  rw [hn] at g1
  refine kk p l e R s m args below meth c H1 _ cells slots Z ls D dA b base hM (hR.put ho.2.1 g2 g3 rfl (fun x hx => ⟨rfl, rfl, rfl, va_up_ne _ _ hx, rfl⟩) ?_) (nw_locs hlo ?_) hl hc hs hr
  · refine Or.inr (Or.inl ⟨Or.inr ho.1, ?_⟩)
    show H1[nw_ad b base a]? = some (arrV (dA (nw_kd w a)) (nw_ln w a) _)
    rw [ho.1, g1, arrV_store, nw_I_I, va_up_self]
    refine congrArg (fun f => some (arrV (dA 18) (nw_ln w a) f)) (funext fun q => ?_)
    by_cases hq : q = i.toNatClampNeg
    · subst hq
      simp [updV, upd]
    · simp [updV, upd, hq]
  · show base ≤ nw_ad b base a
    rw [nw_ad_1 ho.2.1]; omega
theorem V_lastore {a : Nat} {i : Int32} {x : Int64} (hd : decode (nw_cc M) pc = .ok (.lastore, 1)) (ho : nw_ob w a 17) (hin : vp_in i (nw_ln w a)) (kk : V M (pc + 1) lv st (nw_setL w a (vp_updL (nw_L w a) i.toNatClampNeg x)) bc bs Q) : V M pc lv (.long x :: .int i :: .ref a :: st) w bc bs Q := by
  intro p l e R s m args below meth c H locs cells slots Z ls D dA b base hM hR hlo hl hc hs hr
  have hcell := (hR.2.2.2 a ho.2.1 ho.2.2).longs ho.1
  refine W.last (a := nw_ad b base a) hM.1 hM.2.1 hcell ((hM.2.2.2.2.2.2.1.2 1 _ rfl).1 (nw_ln w a) (fun j => .long (nw_L w a j))) (fun q => by cases q) (by show ¬ (i < 0 ∨ (arrV _ _ _).slots.size ≤ _); rw [arrV_size]; exact hin) rfl rfl hd fun H1 g1 g2 g3 => ?_
  refine kk p l e R s m args below meth c H1 _ cells slots Z ls D dA b base hM (hR.put ho.2.1 g2 g3 rfl (fun x hx => ⟨rfl, rfl, rfl, rfl, va_up_ne _ _ hx⟩) ?_) (nw_locs hlo ?_) hl hc hs hr
  · refine Or.inr (Or.inr (Or.inl ⟨ho.1, ?_⟩))
    show H1[nw_ad b base a]? = some (arrV (dA 17) (nw_ln w a) _)
    rw [g1, arrV_store, nw_L_L, va_up_self]
    refine congrArg (fun f => some (arrV (dA 17) (nw_ln w a) f)) (funext fun q => ?_)
    by_cases hq : q = i.toNatClampNeg
    · subst hq
      simp [updV, vp_updL]
    · simp [updV, vp_updL, hq]
  · show base ≤ nw_ad b base a
    rw [nw_ad_1 ho.2.1]; omega
end NWH
