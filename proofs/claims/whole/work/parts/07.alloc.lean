/-! rows that make cells, references in arrays, and calls -/
theorem nw_def {ci k : Nat} (hc : ci < 8) (hk : k < nw_N ci) (w : nw_W) (n b base : Nat) : defaultValue (nw_ty ci k) = nw_ph b base (nw_fv (nw_new w ci n) (nw_sz w + 1) ci k) := by
  unfold nw_fv
  rw [nw_rf_n, nw_I_n, va_up_self, va_up_self]
  rcases nw_ty_ok hc hk with h | h | h
  · rw [h]; rfl
  · rw [h]; rfl
  · rw [if_pos h]
    show defaultValue (nw_ty ci k) = .null
    cases ht : nw_ty ci k <;> rw [ht] at h <;> first | rfl | cases h
/-- a new cell at the end: the rest of the picture stands -/
theorem nw_Rep.push {D : va_G} {dA : Nat → ClassId} {b base : Nat} {w : nw_W} {s : State} {H H1 : Heap} {kd n : Nat} (h : nw_Rep D dA b base w s H) (hz : H1.size = H.size + 1) (hq : ∀ q, q < H.size → H1[q]? = H[q]?)
    (hc : nw_cell D dA b base (nw_new w kd n) (nw_sz w + 1) H1) : nw_Rep D dA b base (nw_new w kd n) s H1 := by
  obtain ⟨h1, h2, h3, h4⟩ := h
  refine ⟨h1, by rw [hz, h2, nw_sz_n]; omega, ?_, fun x hx1 hx2 => ?_⟩
  · rw [nw_ln_n, nw_I_n, va_up_ne _ _ (by omega), va_up_ne _ _ (by omega)]
    exact h3.kept (hq b (by omega))
  · by_cases hx : x = nw_sz w + 1
    · subst hx
      exact hc
    · rw [nw_sz_n] at hx2
      refine (h4 x hx1 (by omega)).kept (hq _ ?_) ?_ ?_ ?_ ?_ ?_
      · rw [nw_ad_1 hx1]; omega
      · rw [nw_kd_n, va_up_ne _ _ hx]
      · rw [nw_ln_n, va_up_ne _ _ hx]
      · rw [nw_rf_n, va_up_ne _ _ hx]
      · rw [nw_I_n, va_up_ne _ _ hx]
      · rw [nw_L_n, va_up_ne _ _ hx]
theorem nw_ad_new (b base : Nat) (w : nw_W) : nw_ad b base (nw_sz w + 1) = base + nw_sz w := by
  rw [nw_ad_1 (by omega)]; omega
theorem nw_cat_map (b base : Nat) (st : List Value) : ((st.map (nw_ph b base)).map fun v => v.category).sum = (st.map fun v => v.category).sum := by
  rw [List.map_map]
  congr 1
  exact List.map_congr_left (fun v _ => nw_ph_cat b base v)
section NWA
variable {M : nw_M} {pc : Nat} {lv st : List Value} {w : nw_W} {bc bs : Nat} {Q : Option Value → nw_W → Prop}
theorem V_new {idx ci : Nat} (hd : decode (nw_cc M) pc = .ok (.new idx, 3)) (hf : nw_cn (nw_on M) idx = some ci) (h1 : 1 ≤ bc) (h2 : nw_N ci ≤ bs) (kk : V M (pc + 3) lv (.ref (nw_sz w + 1) :: st) (nw_new w ci 0) (bc - 1) (bs - nw_N ci) Q) : V M pc lv st w bc bs Q := by
  obtain ⟨hc8, hlk⟩ := nw_cn_ok hf
  obtain ⟨hcl, hin, hty, hnm, hins, hini⟩ := nw_cls hc8
  intro p l e R s m args below meth c H locs cells slots Z ls D dA b base hM hR hlo hl hc hs hr
  have hKn := hM.2.2.2.2.2.2.1.1 ci _ hcl
  have hts := hM.2.2.2.2.1
  refine W.newcK hM.1 hM.2.1 hM.2.2.2.1 (hts _ hlk) (hts _ hins) (hts _ hini) rfl hd (by omega) (by omega) hKn.2.1 hR.2.1 fun H1 kC hkC e1 z1 o1 => ?_
  have e2 : cells + 1 + (bc - 1) = cells + bc := by omega
  have e3 : slots + nw_N ci + (bs - nw_N ci) = slots + bs := by omega
  refine W.eq (g2 := F0 m (pc + 3) ls ((.ref (nw_sz w + 1) :: st).map (nw_ph b base))) (by show F0 m (pc + 3) ls (.ref (base + nw_sz w) :: _) = F0 m (pc + 3) ls (.ref (nw_ad b base (nw_sz w + 1)) :: _); rw [nw_ad_new]) ?_
  refine kk p l e R s m args below meth c H1 locs (cells + 1) (slots + nw_N ci) Z ls D dA b base hM (hR.push (by rw [z1, hR.2.1]) (fun q hq => o1 q (by rw [← hR.2.1]; exact hq)) ?_) hlo hl (by omega) (by omega) (by rw [e2, e3]; exact hr)
  refine Or.inl ⟨by rw [nw_kd_n, va_up_self]; exact hc8, ?_⟩
  rw [nw_kd_n, va_up_self, nw_ad_new]
  exact (u_born (nw_ty ci) hts hin hKn hkC e1 hty).to (fun k hk => nw_def hc8 hk w 0 b base)
theorem V_newarray {at' : ArrayType} {kd N : Nat} {n : Int32} (hd : decode (nw_cc M) pc = .ok (.newarray at', 2)) (hk : (at' = .int ∧ kd = 16) ∨ (at' = .long ∧ kd = 17) ∨ (at' = .boolean ∧ kd = 18)) (hn : ¬ n < 0) (hN : n.toNatClampNeg = N) (hsm : N ≤ 65536) (h1 : 1 ≤ bc) (h2 : N ≤ bs)
    (kk : V M (pc + 2) lv (.ref (nw_sz w + 1) :: st) (nw_new w kd N) (bc - 1) (bs - N) Q) : V M pc lv (.int n :: st) w bc bs Q := by
  intro p l e R s m args below meth c H locs cells slots Z ls D dA b base hM hR hlo hl hc hs hr
  have hts := hM.2.2.2.2.1
  have harr : (Cond.arrayClass (newarray.typeOf at')).before args s = true := by
    rcases hk with ⟨rfl, -⟩ | ⟨rfl, -⟩ | ⟨rfl, -⟩
    · exact hts _ nw_ac.1
    · exact hts _ nw_ac.2.1
    · exact hts _ nw_ac.2.2
  have hby : N * componentBytes (newarray.typeOf at') ≤ 536870912 := by
    rcases hk with ⟨rfl, -⟩ | ⟨rfl, -⟩ | ⟨rfl, -⟩
    · show N * 4 ≤ _; omega
    · show N * 8 ≤ _; omega
    · show N * 1 ≤ _; omega
  refine va_newaK hM.1 hM.2.1 harr rfl hd rfl hn hN hby (by omega) (by omega) hR.2.1 fun H1 cA e1 z1 o1 hAr hNm => ?_
  have e2 : cells + 1 + (bc - 1) = cells + bc := by omega
  have e3 : slots + N + (bs - N) = slots + bs := by omega
  refine W.eq (g2 := F0 m (pc + 2) ls ((.ref (nw_sz w + 1) :: st).map (nw_ph b base))) (by show F0 m (pc + 2) ls (.ref (base + nw_sz w) :: _) = F0 m (pc + 2) ls (.ref (nw_ad b base (nw_sz w + 1)) :: _); rw [nw_ad_new]) ?_
  refine kk p l e R s m args below meth c H1 locs (cells + 1) (slots + N) Z ls D dA b base hM (hR.push (by rw [z1, hR.2.1]) (fun q hq => o1 q (by rw [← hR.2.1]; exact hq)) ?_) hlo hl (by omega) (by omega) (by rw [e2, e3]; exact hr)
  unfold nw_cell
  rw [nw_kd_n, va_up_self, nw_ad_new, nw_ln_n, va_up_self, nw_I_n, va_up_self, nw_L_n, va_up_self, e1]
  have hKt := hM.2.2.2.2.2.2.1.2
  rcases hk with ⟨rfl, rfl⟩ | ⟨rfl, rfl⟩ | ⟨rfl, rfl⟩
  · have h9 : cA = dA 16 := Option.some.inj (hNm.symm.trans (hKt 0 _ rfl).2)
    subst h9
    exact Or.inr (Or.inl ⟨Or.inl rfl, rfl⟩)
  · have h9 : cA = dA 17 := Option.some.inj (hNm.symm.trans (hKt 1 _ rfl).2)
    subst h9
    exact Or.inr (Or.inr (Or.inl ⟨rfl, rfl⟩))
  · have h9 : cA = dA 18 := Option.some.inj (hNm.symm.trans (hKt 2 _ rfl).2)
    subst h9
    exact Or.inr (Or.inl ⟨Or.inr rfl, rfl⟩)
theorem V_anewarray {idx kd N : Nat} {C : String} {n : Int32} (hd : decode (nw_cc M) pc = .ok (.anewarray idx, 3)) (hlk : Jvm.Cond.classLink (nw_R (nw_on M)) idx C ∈ nw_tb) (hk : (kd = 20 ∧ C = "NewsFlood$Server") ∨ (kd = 21 ∧ C = "NewsFlood$Article") ∨ (kd = 22 ∧ C = "NewsFlood$Backlog")) (hn : ¬ n < 0) (hN : n.toNatClampNeg = N) (hsm : N ≤ 65536) (h1 : 1 ≤ bc) (h2 : N ≤ bs)
    (kk : V M (pc + 3) lv (.ref (nw_sz w + 1) :: st) (nw_new w kd N) (bc - 1) (bs - N) Q) : V M pc lv (.int n :: st) w bc bs Q := by
  intro p l e R s m args below meth c H locs cells slots Z ls D dA b base hM hR hlo hl hc hs hr
  have hts := hM.2.2.2.2.1
  subst hN
  have hov : (Cond.arrayOver (.object C)).before args s = true := by
    have ho := hM.2.2.2.2.2.2.2.2.2.1 kd (by omega)
    rcases hk with ⟨rfl, rfl⟩ | ⟨rfl, rfl⟩ | ⟨rfl, rfl⟩
    · exact va_AO.use ho
    · exact va_AO.use ho
    · exact va_AO.use ho
  refine W.anew hM.1 hM.2.1 hM.2.2.2.1 (hts _ hlk) hov rfl hd rfl hn (by omega) (by omega) (by omega) fun cA kA comp f1 f2 f3 f4 => ?_
  generalize hH1 : H.push ({ cls := cA, slots := Array.replicate n.toNatClampNeg .null, vm := .none } : Cell) = H1
  have z1 : H1.size = H.size + 1 := by rw [← hH1, Array.size_push]
  have e1 : H1[H.size]? = some (arrV cA n.toNatClampNeg (fun _ => .null)) := by rw [← hH1, Array.getElem?_push_size, ← arrV_new]
  have o1 : ∀ q : Nat, q < H.size → H1[q]? = H[q]? := fun q hq => by rw [← hH1, Array.getElem?_push, if_neg (Nat.ne_of_lt hq)]
  have e2 : cells + 1 + (bc - 1) = cells + bc := by omega
  have e3 : slots + n.toNatClampNeg + (bs - n.toNatClampNeg) = slots + bs := by omega
  refine W.eq (g2 := F0 m (pc + 3) ls ((.ref (nw_sz w + 1) :: st).map (nw_ph b base))) (by show F0 m (pc + 3) ls (.ref H.size :: _) = F0 m (pc + 3) ls (.ref (nw_ad b base (nw_sz w + 1)) :: _); rw [nw_ad_new, hR.2.1]) ?_
  refine kk p l e R s m args below meth c H1 locs (cells + 1) (slots + n.toNatClampNeg) Z ls D dA b base hM (hR.push z1 o1 ?_) hlo hl (by omega) (by omega) (by rw [e2, e3]; exact hr)
  unfold nw_cell
  rw [nw_kd_n, va_up_self, nw_ad_new, nw_ln_n, va_up_self, nw_rf_n, va_up_self, ← hR.2.1, e1]
  have hKt := hM.2.2.2.2.2.2.1.2
  refine Or.inr (Or.inr (Or.inr ?_))
  rcases hk with ⟨rfl, rfl⟩ | ⟨rfl, rfl⟩ | ⟨rfl, rfl⟩
  · obtain ⟨_, _, _, _, _, g4⟩ := (hKt 4 _ rfl).2
    have h9 : cA = dA 20 := Option.some.inj (f1.symm.trans g4)
    subst h9
    exact ⟨by omega, by omega, rfl⟩
  · obtain ⟨_, _, _, _, _, g4⟩ := (hKt 5 _ rfl).2
    have h9 : cA = dA 21 := Option.some.inj (f1.symm.trans g4)
    subst h9
    exact ⟨by omega, by omega, rfl⟩
  · obtain ⟨_, _, _, _, _, g4⟩ := (hKt 6 _ rfl).2
    have h9 : cA = dA 22 := Option.some.inj (f1.symm.trans g4)
    subst h9
    exact ⟨by omega, by omega, rfl⟩
/-- an object into an array of its class -/
theorem V_aastore {a kd ci r : Nat} {i : Int32} (hd : decode (nw_cc M) pc = .ok (.aastore, 1)) (hk : (kd = 20 ∧ ci = 4) ∨ (kd = 21 ∧ ci = 0) ∨ (kd = 22 ∧ ci = 1)) (ho : nw_ob w a kd) (hv : nw_ob w r ci) (hin : vp_in i (nw_ln w a))
    (kk : V M (pc + 1) lv st (nw_setR w a (va_up (nw_rf w a) i.toNatClampNeg (some r))) bc bs Q) : V M pc lv (.ref r :: .int i :: .ref a :: st) w bc bs Q := by
  intro p l e R s m args below meth c H locs cells slots Z ls D dA b base hM hR hlo hl hc hs hr
  have hc8 : ci < 8 := by omega
  have hkd : 19 ≤ kd ∧ kd < 23 := by omega
  obtain ⟨hcl, -⟩ := nw_cls hc8
  have hlt : i.toNatClampNeg < nw_ln w a := Nat.not_le.mp fun q => hin (Or.inr q)
  have h0 : ¬ i < 0 := fun q => hin (Or.inl q)
  have hcell := (hR.2.2.2 a ho.2.1 ho.2.2).refs ho.1 hkd
  obtain ⟨cellV, g1, g2, g3, -⟩ := (hR.2.2.2 r hv.2.1 hv.2.2).obj hv.1 hc8
  have hcls := (hM.2.2.2.2.2.2.1.1 ci _ hcl).2
  have hKt := hM.2.2.2.2.2.2.1.2
  obtain ⟨kA, comp, k1, k2, k3⟩ : ∃ (kA : Class) (comp : ClassId), s.vm.classes[dA kd]? = some kA ∧ kA.kind = .array comp (.object (nw_R ci)) ∧ s.vm.findClass (nw_R ci) = some comp := by
    rcases hk with ⟨rfl, rfl⟩ | ⟨rfl, rfl⟩ | ⟨rfl, rfl⟩
    · obtain ⟨kA, comp, q1, q2, q3, -⟩ := (hKt 4 _ rfl).2
      exact ⟨kA, comp, q1, q2, q3⟩
    · obtain ⟨kA, comp, q1, q2, q3, -⟩ := (hKt 5 _ rfl).2
      exact ⟨kA, comp, q1, q2, q3⟩
    · obtain ⟨kA, comp, q1, q2, q3, -⟩ := (hKt 6 _ rfl).2
      exact ⟨kA, comp, q1, q2, q3⟩
  have hcomp : comp = D.1 ci := Option.some.inj (k3.symm.trans hcls.1)
  subst hcomp
  obtain ⟨kC, hkC, -⟩ := hcls.2
  refine W.aast (a := nw_ad b base a) (v := nw_ad b base r) hM.1 hM.2.1 hcell (fun q h => by cases h) (fun h => by cases h) k1 k2 rfl hkC ⟨h0, by show _ < (arrV _ _ _).slots.size; rw [arrV_size]; exact hlt⟩ g1 (fun q h => by rw [g3] at h; cases h) (by rw [g2]; exact hkC) (by rw [g2]; exact va_assign hcls) rfl rfl hd fun H1 e1 e2 e3 => ?_
  refine kk p l e R s m args below meth c H1 _ cells slots Z ls D dA b base hM (hR.put ho.2.1 e2 e3 rfl (fun x hx => ⟨rfl, rfl, va_up_ne _ _ hx, rfl, rfl⟩) ?_) (nw_locs hlo ?_) hl hc hs hr
  · refine Or.inr (Or.inr (Or.inr ⟨by show 19 ≤ nw_kd w a; rw [ho.1]; exact hkd.1, by show nw_kd w a < 23; rw [ho.1]; exact hkd.2, ?_⟩))
    show H1[nw_ad b base a]? = some (arrV (dA (nw_kd w a)) (nw_ln w a) _)
    rw [ho.1, e1, arrV_store, nw_rf_R, va_up_self]
    refine congrArg (fun f => some (arrV (dA kd) (nw_ln w a) f)) (funext fun q => ?_)
    by_cases hq : q = i.toNatClampNeg
    · subst hq
      rw [va_up_self]
      simp [updV, va_rf, nw_ph]
    · rw [va_up_ne _ _ hq]
      simp [updV, hq]
  · show base ≤ nw_ad b base a
    rw [nw_ad_1 ho.2.1]; omega
/-- Object() -/
theorem V_objInit {idx a : Nat} (hd : decode (nw_cc M) pc = .ok (.invokespecial idx, 3)) (hlk : Jvm.Cond.methodLink (nw_R (nw_on M)) idx objectInit ∈ nw_tb) (hfr : 1 ≤ nw_fr M) (hlo' : (st.map fun v => v.category).sum + 12 ≤ nw_lo M) (kk : V M (pc + 3) lv st w bc bs Q) : V M pc lv (.ref a :: st) w bc bs Q := by
  refine V_go (fun p l e R s m args below meth c H locs cells slots Z ls D dA b base hM hR hl kk => ?_) kk
  have hts := hM.2.2.2.2.1
  refine W.objInit hM.1 hM.2.1 hM.2.2.2.1 (hts _ hlk) (hts _ nw_oi.1) (hts _ nw_oi.2) rfl (by show ls.size = _; rw [hM.2.2.1]; exact hl.2.1) (a := nw_ad b base a) rfl hd (Nat.le_trans hfr hM.2.2.2.2.2.2.2.1) ?_ kk
  show 2 * 0 + ((st.map (nw_ph b base)).map fun v => v.category).sum + 12 ≤ R.locals
  rw [nw_cat_map]
  have := hM.2.2.2.2.2.2.2.2.1
  omega
/-- new int[n][k] in Server() -/
theorem V_multi {n k : Int32} {N K : Nat} (hd : decode (nw_cc M) pc = .ok (.multianewarray 39 2, 4)) (hon : nw_on M = 4) (hn : ¬ n < 0) (hk : ¬ k < 0) (hN : n.toNatClampNeg = N) (hK : k.toNatClampNeg = K) (h3 : N ≤ 64) (h4 : K ≤ 64) (h5 : 1 + N ≤ bc) (h6 : N + N * K ≤ bs)
    (kk : V M (pc + 4) lv (.ref (nw_sz w + 1) :: st) (nw_grid w N K) (bc - (1 + N)) (bs - (N + N * K)) Q) : V M pc lv (.int k :: .int n :: st) w bc bs Q := by
  intro p l e R s m args below meth c H locs cells slots Z ls D dA b base hM hR hlo hl hc hs hr
  have hts := hM.2.2.2.2.1
  have hown := hM.2.2.2.1
  rw [hon] at hown
  have hKt := hM.2.2.2.2.2.2.1.2
  subst hN
  subst hK
  intro T hT X
  obtain ⟨vm₁, cA, comp, fA, fC, X', step⟩ := mz_op X hM.1 (own := nw_R 4) (index := 39) hown (hts _ nw_mna) hM.2.2.2.2.2.2.2.2.2.2 (hts _ nw_ac.1) (g := F0 m pc ls (.int k :: .int n :: st.map (nw_ph b base))) rfl (by rw [hM.2.1]; exact hd) rfl hn hk h3 h4 (by omega) (by omega)
  have ec : cA = dA 19 := Option.some.inj (fA.symm.trans (hKt 3 _ rfl).2)
  have ed : comp = dA 16 := Option.some.inj (fC.symm.trans (hKt 0 _ rfl).2)
  subst ec
  subst ed
  have hTh : (T.setVm vm₁).heap = H := hT
  obtain ⟨f1, f2, -, -, hold, hrow⟩ := mz_is (T.setVm vm₁) (dA 19) (dA 16) n.toNatClampNeg k.toNatClampNeg n.toNatClampNeg
  generalize mz_st (T.setVm vm₁) (dA 19) (dA 16) n.toNatClampNeg k.toNatClampNeg n.toNatClampNeg = F at X' step f1 f2 hold hrow
  rw [hTh] at f1 f2 hold hrow
  have k2 : cells + (1 + n.toNatClampNeg) + (bc - (1 + n.toNatClampNeg)) = cells + bc := by omega
  have k3 : slots + (n.toNatClampNeg + n.toNatClampNeg * k.toNatClampNeg) + (bs - (n.toNatClampNeg + n.toNatClampNeg * k.toNatClampNeg)) = slots + bs := by omega
  have hrep : nw_Rep D dA b base (nw_grid w n.toNatClampNeg k.toNatClampNeg) s F.heap := by
    obtain ⟨r1, r2, r3, r4⟩ := hR
    refine ⟨r1, by rw [f1, nw_sz_g, r2]; omega, ?_, fun x hx1 hx2 => ?_⟩
    · rw [nw_ln_g, nw_I_g]
      simp only [Nat.zero_le, if_true]
      exact r3.kept (hold b (by omega))
    · rw [nw_sz_g] at hx2
      by_cases hx : x ≤ nw_sz w
      · refine (r4 x hx1 hx).kept (hold _ (by rw [nw_ad_1 hx1]; omega)) ?_ ?_ ?_ ?_ ?_
        · rw [nw_kd_g]; exact if_pos hx
        · rw [nw_ln_g]; exact if_pos hx
        · rw [nw_rf_g]; exact if_pos hx
        · rw [nw_I_g]; exact if_pos hx
        · rw [nw_L_g]; exact if_pos hx
      · by_cases hy : x = nw_sz w + 1
        · subst hy
          refine Or.inr (Or.inr (Or.inr ⟨?_, ?_, ?_⟩))
          · rw [nw_kd_g]; simp only [if_neg hx, if_true]; omega
          · rw [nw_kd_g]; simp only [if_neg hx, if_true]; omega
          · rw [nw_kd_g, nw_ln_g, nw_rf_g, nw_ad_new]
            simp only [if_neg hx, if_true]
            rw [← r2, f2]
            refine congrArg (fun f => some (arrV (dA 19) n.toNatClampNeg f)) (funext fun j => ?_)
            by_cases hj : j < n.toNatClampNeg
            · rw [if_pos hj, if_pos hj]
              show Value.ref _ = .ref (nw_ad b base (nw_sz w + 2 + j))
              rw [nw_ad_1 (by omega), r2]
              exact congrArg Value.ref (show (base + nw_sz w + 1 + j : Nat) = base + (nw_sz w + 2 + j - 1) by omega)
            · rw [if_neg hj, if_neg hj]; rfl
        · refine Or.inr (Or.inl ⟨Or.inl ?_, ?_⟩)
          · rw [nw_kd_g]; simp only [if_neg hx, if_neg hy]
          · rw [nw_kd_g, nw_ln_g, nw_I_g]
            simp only [if_neg hx, if_neg hy]
            rw [nw_ad_1 hx1, show base + (x - 1) = H.size + 1 + (x - (nw_sz w + 2)) by omega]
            exact hrow _ (by omega)
  obtain ⟨t2, a1, b1⟩ := kk p l e R s m args below meth c F.heap locs (cells + (1 + n.toNatClampNeg)) (slots + (n.toNatClampNeg + n.toNatClampNeg * k.toNatClampNeg)) Z ls D dA b base hM hrep hlo hl (by omega) (by omega) (by rw [k2, k3]; exact hr) F rfl X'
  refine ⟨t2, step t2 ?_, b1⟩
  show Steps p.tables e below (F.setTop (F0 m (pc + 4) ls (.ref T.heap.size :: st.map (nw_ph b base)))) t2
  have e5 : T.heap.size = nw_ad b base (nw_sz w + 1) := by rw [hT, hR.2.1, nw_ad_new]
  rw [e5]
  exact a1
end NWA
