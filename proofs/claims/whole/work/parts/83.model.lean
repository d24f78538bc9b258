/-! the reference's constructor -/
def nw_kM (f : Nat) : Nat := if f = 4 ∨ f = 18 then 17 else if f = 9 then 18 else 16
def nw_lM (f : Nat) : Nat := [0, 0, 0, 0, 6, 41, 41, 41, 41, 41, 24, 24, 164, 164, 164, 164, 164, 984, 16, 384, 16, 4, 4, 4, 4, 4, 4, 4].getD f 0
theorem nw_24 {f : Nat} (h1 : 4 ≤ f) (h2 : f < 28) : f = 4 ∨ f = 5 ∨ f = 6 ∨ f = 7 ∨ f = 8 ∨ f = 9 ∨ f = 10 ∨ f = 11 ∨ f = 12 ∨ f = 13 ∨ f = 14 ∨ f = 15 ∨ f = 16 ∨ f = 17 ∨ f = 18 ∨ f = 19 ∨ f = 20 ∨ f = 21 ∨ f = 22 ∨ f = 23 ∨ f = 24 ∨ f = 25 ∨ f = 26 ∨ f = 27 := by omega
/-- the reference's cells, from c + 3 on -/
def nw_PM (c : Nat) (w u : nw_W) : Prop :=
  nw_sz u = c + 27 ∧ (∀ x, x < c + 3 → nw_same w u x) ∧ nw_kd u (c + 3) = 7 ∧ (∀ f, 4 ≤ f → f < 28 → nw_rf u (c + 3) f = some (c + f)) ∧ (∀ f, 4 ≤ f → f < 28 → nw_kd u (c + f) = nw_kM f ∧ nw_ln u (c + f) = nw_lM f) ∧ nw_L u (c + 4) = (fun _ => 0) ∧ nw_L u (c + 18) = (fun _ => 0) ∧ ∀ f, 4 ≤ f → f < 26 → nw_I u (c + f) = fun _ => 0
theorem nw_PM_I {c a : Nat} {w u : nw_W} {g : Nat → Int32} (h : nw_PM c w u) (ha : a = c + 3 ∨ c + 26 ≤ a) : nw_PM c w (nw_setI u a g) := by
  obtain ⟨h1, h2, h3, h4, h5, h6, h7, h8⟩ := h
  refine ⟨h1, fun x hx => nw_same_I (h2 x hx) (by omega), h3, h4, h5, h6, h7, fun f f1 f2 => ?_⟩
  rw [nw_I_I, va_up_ne _ _ (by omega)]
  exact h8 f f1 f2
section CM
variable {w : nw_W} {c : Nat}
set_option maxHeartbeats 1000000 in
set_option maxRecDepth 20000 in
theorem c_Mo_init (x y : Int32) (hc : 1 ≤ c) (hz : nw_sz w = c + 3) (hk : nw_kd w (c + 3) = 7) (hI : nw_I w (c + 3) = fun _ => 0) : V mMo_init 0 (nw_ent mMo_init [.ref (c + 3), .int x, .int y]) [] w 24 2500 (fun r u => r = none ∧ nw_PM c w u ∧ nw_I u (c + 3) = upd (upd (fun _ => 0) 0 (nI (q_nn x))) 1 (q_cut y) ∧ ∀ j, j < 4 → nw_I u (c + 26) j = -1 ∧ nw_I u (c + 27) j = -1) := by
  obtain ⟨n2, n4, hnn⟩ := q_nn_ok x
  generalize hn : q_nn x = n at n2 n4 hnn
  generalize hQ : (fun (r : Option Value) (u : nw_W) => r = none ∧ nw_PM c w u ∧ nw_I u (c + 3) = upd (upd (fun _ => 0) 0 (nI n)) 1 (q_cut y) ∧ ∀ j, j < 4 → nw_I u (c + 26) j = -1 ∧ nw_I u (c + 27) j = -1) = Q
  rw [emMo_init]
  (apply V_s1 [196] 100; simp only [nwx_0, nwx_S, nw_s1, nw_pII, nw_pA, nw_tIs, nw_vis, nw_jpx, Option.isSome_some, Option.getD_some, nw_popn, nw_rok, nw_wok, nw_isR, nw_cd, nw_at, nw_put, nw_nl0, nw_nlS, nw_no2s, nw_ft, nw_l01, nw_ak, nw_tsw, nw_flat, Value.category, List.mem_cons, List.not_mem_nil, List.length_cons, List.length_nil, or_false, false_or, or_true, true_or, and_true, true_and, and_false, false_and, if_true, if_false, Option.some.injEq, Prod.mk.injEq, and_assoc, exists_and_left, exists_eq_left, exists_eq_left', exists_const, nw_ks, nw_f4, nw_fvs, nw_some, Nat.reduceAdd, nw_sz_I, nw_kd_I, nw_ln_I, nw_rf_I, nw_L_I, nw_I_I, nw_sz_L, nw_kd_L, nw_ln_L, nw_rf_L, nw_I_L, nw_L_L, nw_ob_I, nw_ob_L, nw_obr_I, nw_obr_L, nI_add, nw_b0, nw_b1, nw_b01, not_false_eq_true, not_true_eq_false, false_implies, true_implies, Classical.not_not, nw_i10, decide_eq_false_iff_not, decide_eq_true_eq, ne_eq, Option.toList_some, Option.toList_none, List.cons_append, List.nil_append, reduceIte, Nat.reduceEqDiff, Nat.reduceLT, Nat.reduceLeDiff, Nat.reduceSub, Nat.reduceMul, reduceCtorEq, ↓nwx_aload_n, ↓nwx_bipush, ↓nwx_iconst, ↓nwx_invokespecial, ↓nwx_newarray, ↓nwx_putI, ↓nwx_putR, ↓nwx_sipush, dmMo_init_0, dmMo_init_1, dmMo_init_2, rmMo_init, nw_nn, nw_nc, nw_ob, nw_kd_n, nw_kd_R, nw_rf_n, nw_rf_R, nw_sz_n, nw_sz_R, hz, nw_upk, hk, nw_1k hc, Nat.add_assoc, Nat.add_le_add_iff_left]; try simp (disch := omega) only [nw_b0, nw_b1, nw_ilt, nw_ile, nw_ieq, nw_icl, nw_iin, nI_add, and_true, true_and, and_false, false_and, not_false_eq_true, not_true_eq_false, false_implies, true_implies, Classical.not_not, ne_eq, reduceIte, Nat.reduceEqDiff, Nat.reduceLT, Nat.reduceLeDiff, Nat.reduceAdd, Nat.reduceSub, Nat.reduceMul, nw_nn, nw_nc, nw_ob, nw_kd_n, nw_kd_R, nw_rf_n, nw_rf_R, nw_sz_n, nw_sz_R, hz, nw_upk, hk, nw_1k hc, Nat.add_assoc, Nat.add_le_add_iff_left])
  trace_state
  exact foo
end CM
