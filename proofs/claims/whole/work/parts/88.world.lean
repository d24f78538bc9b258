/-! the machine's classes at the law's entry -/
theorem nw_arr {s : State} {c comp : ClassId} {k : Class} {ty : FieldType} (h1 : s.vm.classes[c]? = some k) (h2 : k.kind = .array comp ty) : ArrOfT s c ty := fun n z => ⟨fun q h => (by cases h), k, h1, comp, h2⟩
theorem nw_known {s : State} {A : Array Value} (hts : ∀ w ∈ lw_tbl, w.before A s = true) : ∃ (D : va_G) (dA : Nat → ClassId), va_K D nw_cl (nw_tys dA) s ∧ nw_AO s := by
  have htb : ∀ w ∈ nw_tb, w.before A s = true := fun w hw => hts w (List.mem_filter.mp hw).1
  have hD : ∀ c, ∃ q : ClassId × (Nat → Nat), c < 8 → u_Kn s (nw_R c) (nw_T c) (nw_N c) q.1 q.2 := fun c => by
    by_cases hc : c < 8
    · obtain ⟨hcl, hin, hty, hnm, hins, hini⟩ := nw_cls hc
      obtain ⟨cC, iS, h⟩ := u_known htb hin (htb _ hins)
      exact ⟨(cC, iS), fun _ => h⟩
    · exact ⟨(0, fun _ => 0), fun h => absurd h hc⟩
  obtain ⟨c16, k16, p16, f16, g16, h16⟩ := Cond.arrayClass_spec (htb _ nw_ac.1)
  obtain ⟨c17, k17, p17, f17, g17, h17⟩ := Cond.arrayClass_spec (htb _ nw_ac.2.1)
  obtain ⟨c18, k18, p18, f18, g18, h18⟩ := Cond.arrayClass_spec (htb _ nw_ac.2.2)
  obtain ⟨p19, c19, k19, -, -, g19, h19, f19⟩ := arrayOverA_spec (hts _ nw_aow.1)
  obtain ⟨p20, c20, k20, e20, -, g20, h20, f20⟩ := Cond.arrayOver_spec (hts _ nw_aow.2.1)
  obtain ⟨p21, c21, k21, e21, -, g21, h21, f21⟩ := Cond.arrayOver_spec (hts _ nw_aow.2.2.1)
  obtain ⟨p22, c22, k22, e22, -, g22, h22, f22⟩ := Cond.arrayOver_spec (hts _ nw_aow.2.2.2)
  refine ⟨(fun c => (Classical.choose (hD c)).1, fun c => (Classical.choose (hD c)).2), fun k => if k = 16 then c16 else if k = 17 then c17 else if k = 18 then c18 else if k = 19 then c19 else if k = 20 then c20 else if k = 21 then c21 else c22, ⟨fun c q hq => ?_, fun k q hq => ?_⟩, fun kd hkd => ?_, hts _ nw_aow.1⟩
  · have hc : c < 8 := (List.getElem?_eq_some_iff.mp hq).1
    have e := (nw_cls hc).1.symm.trans hq
    cases e
    exact Classical.choose_spec (hD c) hc
  · rcases (show k = 0 ∨ k = 1 ∨ k = 2 ∨ k = 3 ∨ k = 4 ∨ k = 5 ∨ k = 6 by have := (List.getElem?_eq_some_iff.mp hq).1; simp only [nw_tys, List.length_cons, List.length_nil] at this; omega) with rfl | rfl | rfl | rfl | rfl | rfl | rfl
    · cases hq
      exact ⟨nw_arr g16 h16, f16⟩
    · cases hq
      exact ⟨nw_arr g17 h17, f17⟩
    · cases hq
      exact ⟨nw_arr g18 h18, f18⟩
    · cases hq
      exact ⟨nw_arr g19 h19, f19⟩
    · cases hq
      exact ⟨nw_arr g20 h20, k20, p20, g20, h20, e20, f20⟩
    · cases hq
      exact ⟨nw_arr g21 h21, k21, p21, g21, h21, e21, f21⟩
    · cases hq
      exact ⟨nw_arr g22 h22, k22, p22, g22, h22, e22, f22⟩
  · rcases hkd with rfl | rfl | rfl
    · exact va_AO.of (hts _ nw_aow.2.1)
    · exact va_AO.of (hts _ nw_aow.2.2.1)
    · exact va_AO.of (hts _ nw_aow.2.2.2)
