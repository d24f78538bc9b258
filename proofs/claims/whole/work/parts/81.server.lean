/-! Server's constructor -/
def nw_kT (k : Nat) : Nat := [4, 5, 16, 2, 16, 16, 3, 16, 16, 19, 16, 16, 16, 16, 16, 16, 16, 16, 17, 22].getD k 0
def nw_lT (n k : Nat) : Nat := [0, 0, 24, 0, 41, 41, 0, 6, 6, 6, 41, 41, 41, 41, 41, 41, 41, 41, n, n].getD k 0
/-- a server's cells, t of its backlogs made -/
def nw_PS (n b t : Nat) (w u : nw_W) : Prop :=
  nw_sz u = b + (19 + 2 * t) ∧ (∀ x, x < b → nw_same w u x) ∧ (∀ k, k < 20 → nw_kd u (b + k) = nw_kT k) ∧ (∀ k, 1 ≤ k → k < 20 → nw_ln u (b + k) = nw_lT n k) ∧
  (nw_rf u (b + 0) 0 = some (b + 1) ∧ nw_rf u (b + 0) 1 = some (b + 3) ∧ nw_rf u (b + 0) 2 = some (b + 6) ∧ nw_rf u (b + 0) 3 = some (b + 7) ∧ nw_rf u (b + 0) 4 = some (b + 8) ∧ nw_rf u (b + 0) 5 = some (b + 9) ∧ nw_rf u (b + 0) 6 = some (b + 16) ∧ nw_rf u (b + 0) 7 = some (b + 17) ∧ nw_rf u (b + 0) 8 = some (b + 18) ∧ nw_rf u (b + 0) 9 = some (b + 19)) ∧
  (nw_rf u (b + 1) 0 = some (b + 2) ∧ nw_rf u (b + 3) 0 = some (b + 4) ∧ nw_rf u (b + 3) 1 = some (b + 5) ∧ ∀ g, g < 6 → nw_rf u (b + 9) g = some (b + (10 + g))) ∧
  (∀ j, j < t → nw_rf u (b + 19) j = some (b + (20 + 2 * j))) ∧ (∀ k, k < 20 + 2 * t → k ≠ 6 → nw_I u (b + k) = fun _ => 0) ∧ nw_I u (b + 6) = upd (fun _ => 0) 3 (-1) ∧ nw_L u (b + 18) = (fun _ => 0) ∧
  ∀ j, j < t → nw_kd u (b + (20 + 2 * j)) = 1 ∧ nw_rf u (b + (20 + 2 * j)) 0 = some (b + (21 + 2 * j)) ∧ nw_kd u (b + (21 + 2 * j)) = 16 ∧ nw_ln u (b + (21 + 2 * j)) = 24
theorem nw_20 {k : Nat} (h : k < 20) : k = 0 ∨ k = 1 ∨ k = 2 ∨ k = 3 ∨ k = 4 ∨ k = 5 ∨ k = 6 ∨ k = 7 ∨ k = 8 ∨ k = 9 ∨ k = 10 ∨ k = 11 ∨ k = 12 ∨ k = 13 ∨ k = 14 ∨ k = 15 ∨ k = 16 ∨ k = 17 ∨ k = 18 ∨ k = 19 := by omega
/-- one more backlog -/
theorem nw_PS_s {n b t : Nat} {w u : nw_W} (h : nw_PS n b t w u) (ht : t < n) : nw_PS n b (t + 1) w (nw_setR (nw_setR (nw_new (nw_new u 1 0) 16 24) (b + (20 + 2 * t)) (va_up (nw_rf (nw_new u 1 0) (b + (20 + 2 * t))) 0 (some (b + (20 + 2 * t + 1))))) (b + 19) (va_up (nw_rf u (b + 19)) t (some (b + (20 + 2 * t))))) := by
  obtain ⟨h1, h2, h3, h4, h5, h6, h7, h8, h9, h10, h11⟩ := h
  have sm : ∀ x, x < b + (20 + 2 * t) → x ≠ b + 19 → nw_same u (nw_setR (nw_setR (nw_new (nw_new u 1 0) 16 24) (b + (20 + 2 * t)) (va_up (nw_rf (nw_new u 1 0) (b + (20 + 2 * t))) 0 (some (b + (20 + 2 * t + 1))))) (b + 19) (va_up (nw_rf u (b + 19)) t (some (b + (20 + 2 * t))))) x := fun x hx hx2 => nw_same_R (nw_same_R (nw_same_n (nw_same_n (nw_same_r u x) (by omega)) (by rw [nw_sz_n]; omega)) (by omega)) hx2
  obtain ⟨u', hu'⟩ : ∃ u', u' = nw_setR (nw_setR (nw_new (nw_new u 1 0) 16 24) (b + (20 + 2 * t)) (va_up (nw_rf (nw_new u 1 0) (b + (20 + 2 * t))) 0 (some (b + (20 + 2 * t + 1))))) (b + 19) (va_up (nw_rf u (b + 19)) t (some (b + (20 + 2 * t)))) := ⟨_, rfl⟩
  have s19 : nw_kd u' (b + 19) = nw_kd u (b + 19) ∧ nw_ln u' (b + 19) = nw_ln u (b + 19) ∧ nw_I u' (b + 19) = nw_I u (b + 19) ∧ nw_rf u' (b + 19) = va_up (nw_rf u (b + 19)) t (some (b + (20 + 2 * t))) := by
    have := nw_same_n (k := 16) (l := 24) (nw_same_n (k := 1) (l := 0) (nw_same_r u (b + 19)) (by omega)) (by rw [nw_sz_n]; omega)
    rw [hu']
    exact ⟨this.1, this.2.1, this.2.2.2.1, by rw [nw_rf_R, va_up_self]⟩
  have ez : nw_sz u + 1 = b + (20 + 2 * t) := by omega
  have kN : nw_kd u' (b + (20 + 2 * t)) = 1 ∧ nw_I u' (b + (20 + 2 * t)) = (fun _ => 0) ∧ nw_rf u' (b + (20 + 2 * t)) 0 = some (b + (21 + 2 * t)) := by
    rw [hu']
    refine ⟨?_, ?_, ?_⟩
    · rw [nw_kd_R, nw_kd_R, nw_kd_n, va_up_ne _ _ (by rw [nw_sz_n]; omega), nw_kd_n, ez, va_up_self]
    · rw [nw_I_R, nw_I_R, nw_I_n, va_up_ne _ _ (by rw [nw_sz_n]; omega), nw_I_n, ez, va_up_self]
    · rw [nw_rf_R, va_up_ne _ _ (by omega), nw_rf_R, va_up_self, va_up_self, show 20 + 2 * t + 1 = 21 + 2 * t by omega]
  have kM : nw_kd u' (b + (21 + 2 * t)) = 16 ∧ nw_ln u' (b + (21 + 2 * t)) = 24 ∧ nw_I u' (b + (21 + 2 * t)) = (fun _ => 0) := by
    have ez2 : b + (20 + 2 * t) + 1 = b + (21 + 2 * t) := by omega
    rw [hu']
    refine ⟨?_, ?_, ?_⟩
    · rw [nw_kd_R, nw_kd_R, nw_kd_n, nw_sz_n, ez, ez2, va_up_self]
    · rw [nw_ln_R, nw_ln_R, nw_ln_n, nw_sz_n, ez, ez2, va_up_self]
    · rw [nw_I_R, nw_I_R, nw_I_n, nw_sz_n, ez, ez2, va_up_self]
  rw [← hu'] at sm ⊢
  refine ⟨?_, fun x hx => nw_same_t (h2 x hx) (sm x (by omega) (by omega)), fun k hk => ?_, fun k k1 hk => ?_, ?_, ?_, fun j hj => ?_, fun k hk k6 => ?_, ?_, ?_, fun j hj => ?_⟩
  · rw [hu']
    show nw_sz u + 1 + 1 = _
    omega
  · by_cases h19 : k = 19
    · rw [h19, s19.1]
      exact h3 19 (by omega)
    · rw [(sm (b + k) (by omega) (by omega)).1]
      exact h3 k hk
  · by_cases h19 : k = 19
    · rw [h19, s19.2.1]
      exact h4 19 (by omega) (by omega)
    · rw [(sm (b + k) (by omega) (by omega)).2.1]
      exact h4 k k1 hk
  · rw [(sm (b + 0) (by omega) (by omega)).2.2.1]
    exact h5
  · rw [(sm (b + 1) (by omega) (by omega)).2.2.1, (sm (b + 3) (by omega) (by omega)).2.2.1, (sm (b + 9) (by omega) (by omega)).2.2.1]
    exact h6
  · rw [s19.2.2.2]
    by_cases hjt : j = t
    · rw [hjt, va_up_self]
    · rw [va_up_ne _ _ hjt]
      exact h7 j (by omega)
  · by_cases h19 : k = 19
    · rw [h19, s19.2.2.1]
      exact h8 19 (by omega) (by omega)
    · by_cases h20 : k = 20 + 2 * t
      · rw [h20]
        exact kN.2.1
      · by_cases h21 : k = 21 + 2 * t
        · rw [h21]
          exact kM.2.2
        · rw [(sm (b + k) (by omega) (by omega)).2.2.2.1]
          exact h8 k (by omega) k6
  · rw [(sm (b + 6) (by omega) (by omega)).2.2.2.1]
    exact h9
  · rw [(sm (b + 18) (by omega) (by omega)).2.2.2.2]
    exact h10
  · by_cases hjt : j = t
    · rw [hjt]
      exact ⟨kN.1, kN.2.2, kM.1, kM.2.1⟩
    · rw [(sm (b + (20 + 2 * j)) (by omega) (by omega)).1, (sm (b + (20 + 2 * j)) (by omega) (by omega)).2.2.1, (sm (b + (21 + 2 * j)) (by omega) (by omega)).1, (sm (b + (21 + 2 * j)) (by omega) (by omega)).2.1]
      exact h11 j (by omega)
section CS
variable {n b : Nat} {w : nw_W}
set_option maxRecDepth 20000 in
theorem c_Se_init (hn : n ≤ 4) (hb : 1 ≤ b) (hz : nw_sz w = b + 0) (hk : nw_kd w (b + 0) = 4) (hI : nw_I w (b + 0) = fun _ => 0) : V mSe_init 0 (nw_ent mSe_init [.ref (b + 0), .int (nI n)]) [] w 27 572 (fun r u' => r = none ∧ ∃ u, nw_PS n b n w u ∧ u' = nw_setI u (b + 0) (upd (upd (fun _ => 0) 10 (-1)) 11 (-1))) := by
  have hcn : (nI n).toNatClampNeg = n := nI_clamp (by omega)
  have hn0 : (nI n < 0) = False := eq_false (by
    rw [Int32.lt_iff_toInt_lt, nI_toInt (by omega)]
    show ¬ _ < (0 : Int)
    omega)
  generalize hQ : (fun (r : Option Value) (u' : nw_W) => r = none ∧ ∃ u, nw_PS n b n w u ∧ u' = nw_setI u (b + 0) (upd (upd (fun _ => 0) 10 (-1)) 11 (-1))) = Q
  have loop : ∀ d t, t + d = n → ∀ bc bs, 2 * d ≤ bc → 26 * d ≤ bs → ∀ u, nw_PS n b t w u → V mSe_init 98 [.ref (b + 0), .int (nI n), .int (nI t)] [] u bc bs Q := by
    intro d
    induction d with
    | zero =>
      intro t ht bc bs hbc hbs u hu
      have htn : t = n := by omega
      subst htn
      have k0 : nw_kd u (b + 0) = 4 := hu.2.2.1 0 (by omega)
      have i0 : nw_I u (b + 0) = fun _ => 0 := hu.2.2.2.2.2.2.2.1 0 (by omega) (by omega)
      have z0 : (b + 0 ≤ b + (19 + 2 * t)) = True := eq_true (by omega)
      have z1 := hu.1
      (apply V_s1 [98] 18; simp only [nwx_0, nwx_S, nw_s1, nw_pII, nw_pA, nw_tIs, nw_vis, nw_jpx, Option.isSome_some, Option.getD_some, nw_popn, nw_rok, nw_wok, nw_isR, nw_cd, nw_at, nw_put, nw_nl0, nw_nlS, nw_no2s, nw_ft, nw_l01, nw_ak, nw_tsw, nw_flat, Value.category, List.mem_cons, List.not_mem_nil, List.length_cons, List.length_nil, or_false, false_or, or_true, true_or, and_true, true_and, and_false, false_and, if_true, if_false, Option.some.injEq, Prod.mk.injEq, and_assoc, exists_and_left, exists_eq_left, exists_eq_left', exists_const, nw_ks, nw_f4, nw_fvs, nw_some, Nat.reduceAdd, nw_sz_I, nw_kd_I, nw_ln_I, nw_rf_I, nw_L_I, nw_I_I, nw_sz_L, nw_kd_L, nw_ln_L, nw_rf_L, nw_I_L, nw_L_L, nw_ob_I, nw_ob_L, nw_obr_I, nw_obr_L, nI_add, nw_b0, nw_b1, nw_b01, not_false_eq_true, not_true_eq_false, false_implies, true_implies, Classical.not_not, nw_i10, decide_eq_false_iff_not, decide_eq_true_eq, ne_eq, Option.toList_some, Option.toList_none, List.cons_append, List.nil_append, reduceIte, Nat.reduceEqDiff, Nat.reduceLT, Nat.reduceLeDiff, Nat.reduceSub, Nat.reduceMul, reduceCtorEq, ↓nwx_aload_n, ↓nwx_dup, ↓nwx_getfield, ↓nwx_iconst, ↓nwx_if_icmp, ↓nwx_iload_n, ↓nwx_invokespecial, ↓nwx_new, ↓nwx_putI, ↓nwx_putR, ↓nwx_return_, dmSe_init_1, rmSe_init, nw_ob, k0, z1, z0, nw_1k hb, i0, nw_upk]; try simp (disch := omega) only [nw_b0, nw_b1, nw_ilt, nw_ile, nw_ieq, nw_icl, nw_iin, nI_add, and_true, true_and, and_false, false_and, not_false_eq_true, not_true_eq_false, false_implies, true_implies, Classical.not_not, ne_eq, reduceIte, Nat.reduceEqDiff, Nat.reduceLT, Nat.reduceLeDiff, Nat.reduceAdd, Nat.reduceSub, Nat.reduceMul, nw_ob, k0, z1, z0, nw_1k hb, i0, nw_upk])
      refine br_t (Nat.le_refl _) ?_
      rw [nw_setI2, ← hQ]
      exact ⟨rfl, u, hu, rfl⟩
    | succ d ih =>
      intro t ht bc bs hbc hbs u hu
      have z1 := hu.1
      have r9 : nw_rf u (b + 0) 9 = some (b + 19) := hu.2.2.2.2.1.2.2.2.2.2.2.2.2.2
      have k0 : nw_kd u (b + 0) = 4 := hu.2.2.1 0 (by omega)
      have z0 : (b + 0 ≤ b + (19 + 2 * t)) = True := eq_true (by omega)
      (apply V_s1 [98] 18; simp only [nwx_0, nwx_S, nw_s1, nw_pII, nw_pA, nw_tIs, nw_vis, nw_jpx, Option.isSome_some, Option.getD_some, nw_popn, nw_rok, nw_wok, nw_isR, nw_cd, nw_at, nw_put, nw_nl0, nw_nlS, nw_no2s, nw_ft, nw_l01, nw_ak, nw_tsw, nw_flat, Value.category, List.mem_cons, List.not_mem_nil, List.length_cons, List.length_nil, or_false, false_or, or_true, true_or, and_true, true_and, and_false, false_and, if_true, if_false, Option.some.injEq, Prod.mk.injEq, and_assoc, exists_and_left, exists_eq_left, exists_eq_left', exists_const, nw_ks, nw_f4, nw_fvs, nw_some, Nat.reduceAdd, nw_sz_I, nw_kd_I, nw_ln_I, nw_rf_I, nw_L_I, nw_I_I, nw_sz_L, nw_kd_L, nw_ln_L, nw_rf_L, nw_I_L, nw_L_L, nw_ob_I, nw_ob_L, nw_obr_I, nw_obr_L, nI_add, nw_b0, nw_b1, nw_b01, not_false_eq_true, not_true_eq_false, false_implies, true_implies, Classical.not_not, nw_i10, decide_eq_false_iff_not, decide_eq_true_eq, ne_eq, Option.toList_some, Option.toList_none, List.cons_append, List.nil_append, reduceIte, Nat.reduceEqDiff, Nat.reduceLT, Nat.reduceLeDiff, Nat.reduceSub, Nat.reduceMul, reduceCtorEq, ↓nwx_aload_n, ↓nwx_dup, ↓nwx_getfield, ↓nwx_iconst, ↓nwx_if_icmp, ↓nwx_iload_n, ↓nwx_invokespecial, ↓nwx_new, ↓nwx_putI, ↓nwx_putR, ↓nwx_return_, dmSe_init_1, rmSe_init, nw_ob, k0, z1, z0, nw_1k hb, r9, nw_Ns, nw_sz_n]; try simp (disch := omega) only [nw_b0, nw_b1, nw_ilt, nw_ile, nw_ieq, nw_icl, nw_iin, nI_add, and_true, true_and, and_false, false_and, not_false_eq_true, not_true_eq_false, false_implies, true_implies, Classical.not_not, ne_eq, reduceIte, Nat.reduceEqDiff, Nat.reduceLT, Nat.reduceLeDiff, Nat.reduceAdd, Nat.reduceSub, Nat.reduceMul, nw_ob, k0, z1, z0, nw_1k hb, r9, nw_Ns, nw_sz_n])
      have ez : nw_sz u + 1 = b + (20 + 2 * t) := by omega
      rw [show b + (19 + 2 * t) + 1 = b + (20 + 2 * t) by omega]
      refine br_f (by omega) ⟨by omega, by omega, nw_do1 (c_Ba_init (k := 20 + 2 * t) hb ?_ ?_) (by omega) (by omega) ?_⟩
      · rw [nw_sz_n, ez]
      · rw [nw_kd_n, ez, va_up_self]
      rintro r w1 ⟨rfl, rfl⟩
      have hct : (nI t).toNatClampNeg = t := nI_clamp (by omega)
      have o1 : nw_ob (nw_setR (nw_new (nw_new u 1 0) 16 24) (b + (20 + 2 * t)) (va_up (nw_rf (nw_new u 1 0) (b + (20 + 2 * t))) 0 (some (b + (20 + 2 * t + 1))))) (b + 19) 22 := by
        have s := nw_same_n (k := 16) (l := 24) (nw_same_n (k := 1) (l := 0) (nw_same_r u (b + 19)) (by omega)) (by rw [nw_sz_n]; omega)
        exact ⟨s.1.trans (hu.2.2.1 19 (by omega)), by omega, by show b + 19 ≤ nw_sz u + 1 + 1; omega⟩
      have o2 : nw_ob (nw_setR (nw_new (nw_new u 1 0) 16 24) (b + (20 + 2 * t)) (va_up (nw_rf (nw_new u 1 0) (b + (20 + 2 * t))) 0 (some (b + (20 + 2 * t + 1))))) (b + (20 + 2 * t)) 1 := by
        refine ⟨?_, by omega, by show b + (20 + 2 * t) ≤ nw_sz u + 1 + 1; omega⟩
        rw [nw_kd_R, nw_kd_n, va_up_ne _ _ (by rw [nw_sz_n]; omega), nw_kd_n, ez, va_up_self]
      have o3 : nw_ln (nw_setR (nw_new (nw_new u 1 0) 16 24) (b + (20 + 2 * t)) (va_up (nw_rf (nw_new u 1 0) (b + (20 + 2 * t))) 0 (some (b + (20 + 2 * t + 1))))) (b + 19) = n := by
        have s := nw_same_n (k := 16) (l := 24) (nw_same_n (k := 1) (l := 0) (nw_same_r u (b + 19)) (by omega)) (by rw [nw_sz_n]; omega)
        exact s.2.1.trans (hu.2.2.2.1 19 (by omega) (by omega))
      have o4 : nw_rf (nw_setR (nw_new (nw_new u 1 0) 16 24) (b + (20 + 2 * t)) (va_up (nw_rf (nw_new u 1 0) (b + (20 + 2 * t))) 0 (some (b + (20 + 2 * t + 1))))) (b + 19) = nw_rf u (b + 19) := by
        have s := nw_same_R (a := b + (20 + 2 * t)) (f := va_up (nw_rf (nw_new u 1 0) (b + (20 + 2 * t))) 0 (some (b + (20 + 2 * t + 1)))) (nw_same_n (k := 16) (l := 24) (nw_same_n (k := 1) (l := 0) (nw_same_r u (b + 19)) (by omega)) (by rw [nw_sz_n]; omega)) (show b + 19 ≠ b + (20 + 2 * t) by omega)
        exact s.2.2.1
      have nx := nw_PS_s hu (show t < n by omega)
      rw [← o4] at nx
      generalize nw_setR (nw_new (nw_new u 1 0) 16 24) (b + (20 + 2 * t)) (va_up (nw_rf (nw_new u 1 0) (b + (20 + 2 * t))) 0 (some (b + (20 + 2 * t + 1)))) = u1 at o1 o2 o3 o4 nx
      (apply V_s1 [98] 5; simp only [nwx_0, nwx_S, nw_s1, nw_pII, nw_pA, nw_tIs, nw_vis, nw_jpx, Option.isSome_some, Option.getD_some, nw_popn, nw_rok, nw_wok, nw_isR, nw_cd, nw_at, nw_put, nw_nl0, nw_nlS, nw_no2s, nw_ft, nw_l01, nw_ak, nw_tsw, nw_flat, Value.category, List.mem_cons, List.not_mem_nil, List.length_cons, List.length_nil, or_false, false_or, or_true, true_or, and_true, true_and, and_false, false_and, if_true, if_false, Option.some.injEq, Prod.mk.injEq, and_assoc, exists_and_left, exists_eq_left, exists_eq_left', exists_const, nw_ks, nw_f4, nw_fvs, nw_some, Nat.reduceAdd, nw_sz_I, nw_kd_I, nw_ln_I, nw_rf_I, nw_L_I, nw_I_I, nw_sz_L, nw_kd_L, nw_ln_L, nw_rf_L, nw_I_L, nw_L_L, nw_ob_I, nw_ob_L, nw_obr_I, nw_obr_L, nI_add, nw_b0, nw_b1, nw_b01, not_false_eq_true, not_true_eq_false, false_implies, true_implies, Classical.not_not, nw_i10, decide_eq_false_iff_not, decide_eq_true_eq, ne_eq, Option.toList_some, Option.toList_none, List.cons_append, List.nil_append, reduceIte, Nat.reduceEqDiff, Nat.reduceLT, Nat.reduceLeDiff, Nat.reduceSub, Nat.reduceMul, reduceCtorEq, ↓nwx_aastore, ↓nwx_goto, ↓nwx_iinc, dmSe_init_1, rmSe_init, o3, hct]; try simp (disch := omega) only [nw_b0, nw_b1, nw_ilt, nw_ile, nw_ieq, nw_icl, nw_iin, nI_add, and_true, true_and, and_false, false_and, not_false_eq_true, not_true_eq_false, false_implies, true_implies, Classical.not_not, ne_eq, reduceIte, Nat.reduceEqDiff, Nat.reduceLT, Nat.reduceLeDiff, Nat.reduceAdd, Nat.reduceSub, Nat.reduceMul, o3, hct])
      exact ⟨22, 1, Or.inr (Or.inr ⟨rfl, rfl⟩), o1, o2, by omega, ih (t + 1) (by omega) _ _ (by omega) (by omega) _ nx⟩
  rw [emSe_init]
  (apply V_s1 [98] 8; simp only [nwx_0, nwx_S, nw_s1, nw_pII, nw_pA, nw_tIs, nw_vis, nw_jpx, Option.isSome_some, Option.getD_some, nw_popn, nw_rok, nw_wok, nw_isR, nw_cd, nw_at, nw_put, nw_nl0, nw_nlS, nw_no2s, nw_ft, nw_l01, nw_ak, nw_tsw, nw_flat, Value.category, List.mem_cons, List.not_mem_nil, List.length_cons, List.length_nil, or_false, false_or, or_true, true_or, and_true, true_and, and_false, false_and, if_true, if_false, Option.some.injEq, Prod.mk.injEq, and_assoc, exists_and_left, exists_eq_left, exists_eq_left', exists_const, nw_ks, nw_f4, nw_fvs, nw_some, Nat.reduceAdd, nw_sz_I, nw_kd_I, nw_ln_I, nw_rf_I, nw_L_I, nw_I_I, nw_sz_L, nw_kd_L, nw_ln_L, nw_rf_L, nw_I_L, nw_L_L, nw_ob_I, nw_ob_L, nw_obr_I, nw_obr_L, nI_add, nw_b0, nw_b1, nw_b01, not_false_eq_true, not_true_eq_false, false_implies, true_implies, Classical.not_not, nw_i10, decide_eq_false_iff_not, decide_eq_true_eq, ne_eq, Option.toList_some, Option.toList_none, List.cons_append, List.nil_append, reduceIte, Nat.reduceEqDiff, Nat.reduceLT, Nat.reduceLeDiff, Nat.reduceSub, Nat.reduceMul, reduceCtorEq, ↓nwx_aload_n, ↓nwx_dup, ↓nwx_invokespecial, ↓nwx_new, dmSe_init_0, rmSe_init, nw_nn, nw_nc, nw_ob, nw_kd_n, nw_kd_R, nw_kd_g, nw_rf_n, nw_rf_R, nw_rf_g, nw_sz_n, nw_sz_R, nw_sz_g, hz, nw_upk, hk, nw_1k hb, Nat.add_assoc, Nat.add_le_add_iff_left, hcn, hn0, nw_Ns]; try simp (disch := omega) only [nw_b0, nw_b1, nw_ilt, nw_ile, nw_ieq, nw_icl, nw_iin, nI_add, and_true, true_and, and_false, false_and, not_false_eq_true, not_true_eq_false, false_implies, true_implies, Classical.not_not, ne_eq, reduceIte, Nat.reduceEqDiff, Nat.reduceLT, Nat.reduceLeDiff, Nat.reduceAdd, Nat.reduceSub, Nat.reduceMul, nw_nn, nw_nc, nw_ob, nw_kd_n, nw_kd_R, nw_kd_g, nw_rf_n, nw_rf_R, nw_rf_g, nw_sz_n, nw_sz_R, nw_sz_g, hz, nw_upk, hk, nw_1k hb, Nat.add_assoc, Nat.add_le_add_iff_left, hcn, hn0, nw_Ns])
  refine nw_do1 (c_Sp_init (k := 1) hb ?_ ?_) (by omega) (by omega) ?_
  · simp only [nw_sz_n, hz, Nat.add_assoc, Nat.reduceAdd]
  · simp only [nw_kd_n, hz, nw_upk, Nat.add_assoc, Nat.reduceAdd, if_true]
  rintro r w1 ⟨rfl, rfl⟩
  (apply V_s1 [98] 7; simp only [nwx_0, nwx_S, nw_s1, nw_pII, nw_pA, nw_tIs, nw_vis, nw_jpx, Option.isSome_some, Option.getD_some, nw_popn, nw_rok, nw_wok, nw_isR, nw_cd, nw_at, nw_put, nw_nl0, nw_nlS, nw_no2s, nw_ft, nw_l01, nw_ak, nw_tsw, nw_flat, Value.category, List.mem_cons, List.not_mem_nil, List.length_cons, List.length_nil, or_false, false_or, or_true, true_or, and_true, true_and, and_false, false_and, if_true, if_false, Option.some.injEq, Prod.mk.injEq, and_assoc, exists_and_left, exists_eq_left, exists_eq_left', exists_const, nw_ks, nw_f4, nw_fvs, nw_some, Nat.reduceAdd, nw_sz_I, nw_kd_I, nw_ln_I, nw_rf_I, nw_L_I, nw_I_I, nw_sz_L, nw_kd_L, nw_ln_L, nw_rf_L, nw_I_L, nw_L_L, nw_ob_I, nw_ob_L, nw_obr_I, nw_obr_L, nI_add, nw_b0, nw_b1, nw_b01, not_false_eq_true, not_true_eq_false, false_implies, true_implies, Classical.not_not, nw_i10, decide_eq_false_iff_not, decide_eq_true_eq, ne_eq, Option.toList_some, Option.toList_none, List.cons_append, List.nil_append, reduceIte, Nat.reduceEqDiff, Nat.reduceLT, Nat.reduceLeDiff, Nat.reduceSub, Nat.reduceMul, reduceCtorEq, ↓nwx_aload_n, ↓nwx_dup, ↓nwx_invokespecial, ↓nwx_new, ↓nwx_putI, ↓nwx_putR, dmSe_init_0, rmSe_init, nw_nn, nw_nc, nw_ob, nw_kd_n, nw_kd_R, nw_kd_g, nw_rf_n, nw_rf_R, nw_rf_g, nw_sz_n, nw_sz_R, nw_sz_g, hz, nw_upk, hk, nw_1k hb, Nat.add_assoc, Nat.add_le_add_iff_left, hcn, hn0, nw_Ns]; try simp (disch := omega) only [nw_b0, nw_b1, nw_ilt, nw_ile, nw_ieq, nw_icl, nw_iin, nI_add, and_true, true_and, and_false, false_and, not_false_eq_true, not_true_eq_false, false_implies, true_implies, Classical.not_not, ne_eq, reduceIte, Nat.reduceEqDiff, Nat.reduceLT, Nat.reduceLeDiff, Nat.reduceAdd, Nat.reduceSub, Nat.reduceMul, nw_nn, nw_nc, nw_ob, nw_kd_n, nw_kd_R, nw_kd_g, nw_rf_n, nw_rf_R, nw_rf_g, nw_sz_n, nw_sz_R, nw_sz_g, hz, nw_upk, hk, nw_1k hb, Nat.add_assoc, Nat.add_le_add_iff_left, hcn, hn0, nw_Ns])
  refine nw_do1 (c_En_init (k := 3) hb ?_ ?_) (by omega) (by omega) ?_
  · simp only [nw_sz_n, nw_sz_R, hz, Nat.add_assoc, Nat.reduceAdd]
  · simp only [nw_kd_n, nw_kd_R, nw_sz_n, nw_sz_R, hz, nw_upk, Nat.add_assoc, Nat.reduceAdd, if_true]
  rintro r w1 ⟨rfl, rfl⟩
  (apply V_s1 [98] 7; simp only [nwx_0, nwx_S, nw_s1, nw_pII, nw_pA, nw_tIs, nw_vis, nw_jpx, Option.isSome_some, Option.getD_some, nw_popn, nw_rok, nw_wok, nw_isR, nw_cd, nw_at, nw_put, nw_nl0, nw_nlS, nw_no2s, nw_ft, nw_l01, nw_ak, nw_tsw, nw_flat, Value.category, List.mem_cons, List.not_mem_nil, List.length_cons, List.length_nil, or_false, false_or, or_true, true_or, and_true, true_and, and_false, false_and, if_true, if_false, Option.some.injEq, Prod.mk.injEq, and_assoc, exists_and_left, exists_eq_left, exists_eq_left', exists_const, nw_ks, nw_f4, nw_fvs, nw_some, Nat.reduceAdd, nw_sz_I, nw_kd_I, nw_ln_I, nw_rf_I, nw_L_I, nw_I_I, nw_sz_L, nw_kd_L, nw_ln_L, nw_rf_L, nw_I_L, nw_L_L, nw_ob_I, nw_ob_L, nw_obr_I, nw_obr_L, nI_add, nw_b0, nw_b1, nw_b01, not_false_eq_true, not_true_eq_false, false_implies, true_implies, Classical.not_not, nw_i10, decide_eq_false_iff_not, decide_eq_true_eq, ne_eq, Option.toList_some, Option.toList_none, List.cons_append, List.nil_append, reduceIte, Nat.reduceEqDiff, Nat.reduceLT, Nat.reduceLeDiff, Nat.reduceSub, Nat.reduceMul, reduceCtorEq, ↓nwx_aload_n, ↓nwx_dup, ↓nwx_invokespecial, ↓nwx_new, ↓nwx_putI, ↓nwx_putR, dmSe_init_0, rmSe_init, nw_nn, nw_nc, nw_ob, nw_kd_n, nw_kd_R, nw_kd_g, nw_rf_n, nw_rf_R, nw_rf_g, nw_sz_n, nw_sz_R, nw_sz_g, hz, nw_upk, hk, nw_1k hb, Nat.add_assoc, Nat.add_le_add_iff_left, hcn, hn0, nw_Ns]; try simp (disch := omega) only [nw_b0, nw_b1, nw_ilt, nw_ile, nw_ieq, nw_icl, nw_iin, nI_add, and_true, true_and, and_false, false_and, not_false_eq_true, not_true_eq_false, false_implies, true_implies, Classical.not_not, ne_eq, reduceIte, Nat.reduceEqDiff, Nat.reduceLT, Nat.reduceLeDiff, Nat.reduceAdd, Nat.reduceSub, Nat.reduceMul, nw_nn, nw_nc, nw_ob, nw_kd_n, nw_kd_R, nw_kd_g, nw_rf_n, nw_rf_R, nw_rf_g, nw_sz_n, nw_sz_R, nw_sz_g, hz, nw_upk, hk, nw_1k hb, Nat.add_assoc, Nat.add_le_add_iff_left, hcn, hn0, nw_Ns])
  refine nw_do1 (c_In_init (k := 6) hb ?_ ?_) (by omega) (by omega) ?_
  · simp only [nw_sz_n, nw_sz_R, hz, Nat.add_assoc, Nat.reduceAdd]
  · simp only [nw_kd_n, nw_kd_R, nw_sz_n, nw_sz_R, hz, nw_upk, Nat.add_assoc, Nat.reduceAdd, if_true]
  rintro r w1 ⟨rfl, rfl⟩
  (apply V_s1 [98] 34; simp only [nwx_0, nwx_S, nw_s1, nw_pII, nw_pA, nw_tIs, nw_vis, nw_jpx, Option.isSome_some, Option.getD_some, nw_popn, nw_rok, nw_wok, nw_isR, nw_cd, nw_at, nw_put, nw_nl0, nw_nlS, nw_no2s, nw_ft, nw_l01, nw_ak, nw_tsw, nw_flat, Value.category, List.mem_cons, List.not_mem_nil, List.length_cons, List.length_nil, or_false, false_or, or_true, true_or, and_true, true_and, and_false, false_and, if_true, if_false, Option.some.injEq, Prod.mk.injEq, and_assoc, exists_and_left, exists_eq_left, exists_eq_left', exists_const, nw_ks, nw_f4, nw_fvs, nw_some, Nat.reduceAdd, nw_sz_I, nw_kd_I, nw_ln_I, nw_rf_I, nw_L_I, nw_I_I, nw_sz_L, nw_kd_L, nw_ln_L, nw_rf_L, nw_I_L, nw_L_L, nw_ob_I, nw_ob_L, nw_obr_I, nw_obr_L, nI_add, nw_b0, nw_b1, nw_b01, not_false_eq_true, not_true_eq_false, false_implies, true_implies, Classical.not_not, nw_i10, decide_eq_false_iff_not, decide_eq_true_eq, ne_eq, Option.toList_some, Option.toList_none, List.cons_append, List.nil_append, reduceIte, Nat.reduceEqDiff, Nat.reduceLT, Nat.reduceLeDiff, Nat.reduceSub, Nat.reduceMul, reduceCtorEq, ↓nwx_aload_n, ↓nwx_anewarray, ↓nwx_bipush, ↓nwx_iconst, ↓nwx_iload_n, ↓nwx_istore_n, ↓nwx_multianewarray, ↓nwx_newarray, ↓nwx_putI, ↓nwx_putR, dmSe_init_0, dmSe_init_1, rmSe_init, nw_nn, nw_nc, nw_ob, nw_kd_n, nw_kd_R, nw_kd_g, nw_rf_n, nw_rf_R, nw_rf_g, nw_sz_n, nw_sz_R, nw_sz_g, hz, nw_upk, hk, nw_1k hb, Nat.add_assoc, Nat.add_le_add_iff_left, hcn, hn0, nw_Ns]; try simp (disch := omega) only [nw_b0, nw_b1, nw_ilt, nw_ile, nw_ieq, nw_icl, nw_iin, nI_add, and_true, true_and, and_false, false_and, not_false_eq_true, not_true_eq_false, false_implies, true_implies, Classical.not_not, ne_eq, reduceIte, Nat.reduceEqDiff, Nat.reduceLT, Nat.reduceLeDiff, Nat.reduceAdd, Nat.reduceSub, Nat.reduceMul, nw_nn, nw_nc, nw_ob, nw_kd_n, nw_kd_R, nw_kd_g, nw_rf_n, nw_rf_R, nw_rf_g, nw_sz_n, nw_sz_R, nw_sz_g, hz, nw_upk, hk, nw_1k hb, Nat.add_assoc, Nat.add_le_add_iff_left, hcn, hn0, nw_Ns])
  refine ⟨by omega, by omega, by omega, by omega, loop n 0 (by omega) _ _ (by omega) (by omega) _ ?_⟩
  refine ⟨?_, fun x hx => ?_, fun k hk20 => ?_, fun k hk1 hk20 => ?_, ?_, ?_, fun j hj => absurd hj (by omega), fun k hk20 hk6 => ?_, ?_, ?_, fun j hj => absurd hj (by omega)⟩
  · simp only [nw_kd_n, nw_kd_R, nw_kd_I, nw_kd_g, nw_ln_n, nw_ln_R, nw_ln_I, nw_ln_g, nw_rf_n, nw_rf_R, nw_rf_I, nw_rf_g, nw_I_n, nw_I_R, nw_I_I, nw_I_g, nw_L_n, nw_L_R, nw_L_I, nw_L_g, nw_sz_n, nw_sz_R, nw_sz_I, nw_sz_g, hz, va_up, Nat.add_assoc, Nat.reduceAdd, Nat.add_le_add_iff_left, Nat.add_left_cancel_iff, Nat.reduceLeDiff, Nat.reduceEqDiff, reduceIte, hk, hI]
  · repeat (first | exact nw_same_r _ _ | (refine nw_same_R ?_ (by omega)) | (refine nw_same_I ?_ (by omega)) | (refine nw_same_n ?_ (by simp only [nw_sz_n, nw_sz_R, nw_sz_I, nw_sz_g, hz]; omega)) | (refine nw_same_g ?_ (by simp only [nw_sz_n, nw_sz_R, nw_sz_I, nw_sz_g, hz]; omega)))
  · rcases nw_20 hk20 with rfl | rfl | rfl | rfl | rfl | rfl | rfl | rfl | rfl | rfl | rfl | rfl | rfl | rfl | rfl | rfl | rfl | rfl | rfl | rfl <;> (simp only [nw_kd_n, nw_kd_R, nw_kd_I, nw_kd_g, nw_ln_n, nw_ln_R, nw_ln_I, nw_ln_g, nw_rf_n, nw_rf_R, nw_rf_I, nw_rf_g, nw_I_n, nw_I_R, nw_I_I, nw_I_g, nw_L_n, nw_L_R, nw_L_I, nw_L_g, nw_sz_n, nw_sz_R, nw_sz_I, nw_sz_g, hz, va_up, Nat.add_assoc, Nat.reduceAdd, Nat.add_le_add_iff_left, Nat.add_left_cancel_iff, Nat.reduceLeDiff, Nat.reduceEqDiff, reduceIte, hk, hI]; try rfl)
  · rcases nw_20 hk20 with rfl | rfl | rfl | rfl | rfl | rfl | rfl | rfl | rfl | rfl | rfl | rfl | rfl | rfl | rfl | rfl | rfl | rfl | rfl | rfl <;> first | (exfalso; omega) | (simp only [nw_kd_n, nw_kd_R, nw_kd_I, nw_kd_g, nw_ln_n, nw_ln_R, nw_ln_I, nw_ln_g, nw_rf_n, nw_rf_R, nw_rf_I, nw_rf_g, nw_I_n, nw_I_R, nw_I_I, nw_I_g, nw_L_n, nw_L_R, nw_L_I, nw_L_g, nw_sz_n, nw_sz_R, nw_sz_I, nw_sz_g, hz, va_up, Nat.add_assoc, Nat.reduceAdd, Nat.add_le_add_iff_left, Nat.add_left_cancel_iff, Nat.reduceLeDiff, Nat.reduceEqDiff, reduceIte, hk, hI]; try rfl)
  · simp only [nw_kd_n, nw_kd_R, nw_kd_I, nw_kd_g, nw_ln_n, nw_ln_R, nw_ln_I, nw_ln_g, nw_rf_n, nw_rf_R, nw_rf_I, nw_rf_g, nw_I_n, nw_I_R, nw_I_I, nw_I_g, nw_L_n, nw_L_R, nw_L_I, nw_L_g, nw_sz_n, nw_sz_R, nw_sz_I, nw_sz_g, hz, va_up, Nat.add_assoc, Nat.reduceAdd, Nat.add_le_add_iff_left, Nat.add_left_cancel_iff, Nat.reduceLeDiff, Nat.reduceEqDiff, reduceIte, hk, hI, and_self]
  · simp only [nw_kd_n, nw_kd_R, nw_kd_I, nw_kd_g, nw_ln_n, nw_ln_R, nw_ln_I, nw_ln_g, nw_rf_n, nw_rf_R, nw_rf_I, nw_rf_g, nw_I_n, nw_I_R, nw_I_I, nw_I_g, nw_L_n, nw_L_R, nw_L_I, nw_L_g, nw_sz_n, nw_sz_R, nw_sz_I, nw_sz_g, hz, va_up, Nat.add_assoc, Nat.reduceAdd, Nat.add_le_add_iff_left, Nat.add_left_cancel_iff, Nat.reduceLeDiff, Nat.reduceEqDiff, reduceIte, hk, hI, true_and]
    exact fun g hg => if_pos hg
  · rcases nw_20 hk20 with rfl | rfl | rfl | rfl | rfl | rfl | rfl | rfl | rfl | rfl | rfl | rfl | rfl | rfl | rfl | rfl | rfl | rfl | rfl | rfl <;> first | (exfalso; omega) | (simp only [nw_kd_n, nw_kd_R, nw_kd_I, nw_kd_g, nw_ln_n, nw_ln_R, nw_ln_I, nw_ln_g, nw_rf_n, nw_rf_R, nw_rf_I, nw_rf_g, nw_I_n, nw_I_R, nw_I_I, nw_I_g, nw_L_n, nw_L_R, nw_L_I, nw_L_g, nw_sz_n, nw_sz_R, nw_sz_I, nw_sz_g, hz, va_up, Nat.add_assoc, Nat.reduceAdd, Nat.add_le_add_iff_left, Nat.add_left_cancel_iff, Nat.reduceLeDiff, Nat.reduceEqDiff, reduceIte, hk, hI])
  · simp only [nw_kd_n, nw_kd_R, nw_kd_I, nw_kd_g, nw_ln_n, nw_ln_R, nw_ln_I, nw_ln_g, nw_rf_n, nw_rf_R, nw_rf_I, nw_rf_g, nw_I_n, nw_I_R, nw_I_I, nw_I_g, nw_L_n, nw_L_R, nw_L_I, nw_L_g, nw_sz_n, nw_sz_R, nw_sz_I, nw_sz_g, hz, va_up, Nat.add_assoc, Nat.reduceAdd, Nat.add_le_add_iff_left, Nat.add_left_cancel_iff, Nat.reduceLeDiff, Nat.reduceEqDiff, reduceIte, hk, hI]
  · simp only [nw_kd_n, nw_kd_R, nw_kd_I, nw_kd_g, nw_ln_n, nw_ln_R, nw_ln_I, nw_ln_g, nw_rf_n, nw_rf_R, nw_rf_I, nw_rf_g, nw_I_n, nw_I_R, nw_I_I, nw_I_g, nw_L_n, nw_L_R, nw_L_I, nw_L_g, nw_sz_n, nw_sz_R, nw_sz_I, nw_sz_g, hz, va_up, Nat.add_assoc, Nat.reduceAdd, Nat.add_le_add_iff_left, Nat.add_left_cancel_iff, Nat.reduceLeDiff, Nat.reduceEqDiff, reduceIte, hk, hI]
end CS
