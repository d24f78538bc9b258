/-! what waits at a server: out of a line, into the lines -/
theorem nw_ids_mono {p q : Nat → Bool} (h : ∀ i, 1 ≤ i → i ≤ 40 → p i = true → q i = true) : nw_ids p ≤ nw_ids q := nw_cnt_mono 40 (fun i hi => h (i + 1) (by omega) (by omega))
section NX
variable {n B : Nat} {w : nw_W} {S : nw_Q}
/-- a server whose lines alone have changed -/
theorem j_srv_bl {s B' : Nat} {S' : nw_Q} {c c' : Nat → Nat → Int32} {cl cl' : Nat → Int64} (h : j_srv n s c cl S B) (hBB : B ≤ B') (hc : ∀ k, k < 20 → c' k = c k) (hcl : cl' = cl) (hS : ∀ f, f ≠ 19 → f ≠ 20 → S'.1 f = S.1 f) (hS2 : S'.2 = S.2) (hb : j_bl n s c' S') : j_srv n s c' cl' S' B' := by
  obtain ⟨p1, p2, p3, p4, p5, p6, p7, p8⟩ := h
  have e : ∀ f, f < 19 ∨ 20 < f → S'.1 f = S.1 f := fun f hf => hS f (by omega) (by omega)
  have kp : j_keep S S' := fun i _ _ q => ⟨by rw [e 9 (by omega)]; exact q, by rw [e 7 (by omega)]⟩
  have s12 := e 12 (by omega)
  exact ⟨j_ent_c p1 ⟨hc 4 (by omega), hc 5 (by omega), hc 16 (by omega), hc 17 (by omega)⟩ (fun i _ _ => ⟨by rw [s12], by rw [e 13 (by omega)], by rw [e 14 (by omega)], by rw [e 16 (by omega)]⟩) kp, j_grp_c p2 ⟨hc 7 (by omega), hc 8 (by omega), fun g hg => hc (10 + g) (by omega)⟩ hBB (fun g hg => ⟨by rw [e 10 (by omega)], by rw [e 11 (by omega)]⟩) (fun i g _ _ _ => by rw [e 17 (by omega)]) (fun i _ _ => Or.inr (Or.inr (by rw [s12]))) (fun i _ _ q => by rw [s12]; exact q), j_cnt_c p3 (hc 3 (by omega)) (fun i _ _ => by rw [s12]), j_int_c p4 (hc 6 (by omega)) ⟨by rw [e 21 (by omega)], by rw [e 22 (by omega)], by rw [e 24 (by omega)], by rw [e 25 (by omega)]⟩ (fun i _ _ => by rw [s12]) kp, j_sel_c p5 (hc 0 (by omega)) hBB ⟨by rw [e 26 (by omega)], by rw [e 27 (by omega)]⟩, j_own_c p6 (hc 2 (by omega)) ⟨by rw [e 21 (by omega)], by rw [e 23 (by omega)]⟩ (fun i _ _ => ⟨by rw [s12], by rw [e 15 (by omega)]⟩) (fun i _ _ _ => by rw [e 7 (by omega)]), j_pat_c p7 hcl (fun t _ => by rw [hS2]), hb⟩
/-- a line, cell and row, without one ID -/
theorem j_out {ids f row : Nat → Int32} {q c off : Nat} {x : Int32} (h : nw_pre ids q = nw_pre (fun k => row (off + k)) q) (hf : nw_pre f c = nw_out x (nw_pre ids q)) : (q_lvF row off x q).1 = c ∧ c ≤ q ∧ nw_pre f c = nw_pre (fun k => (q_lvF row off x q).2 (off + k)) c := by
  obtain ⟨h1, h2, -⟩ := q_lvF_ok row off x q
  rw [← h] at h2
  have hc : (q_lvF row off x q).1 = c := by
    have a := congrArg List.length h2
    have b := congrArg List.length hf
    rw [nw_pre_len] at a b
    omega
  refine ⟨hc, by omega, ?_⟩
  rw [hf, ← h2, hc]
theorem nw_J_lv {s t q i : Nat} {w' : nw_W} (hJ : nw_J n w S B) (hs : s < n) (ht : t < n) (hq : q ≤ 24) (hq1 : nw_I w (nw_S n s (20 + 2 * t)) 1 = nI q) (hw : nw_rmv w (nw_S n s (20 + 2 * t)) (nw_S n s (21 + 2 * t)) (nI i) q none w') : nw_J n w' (q_leaves S (4 * s + t) (nI i)) B ∧ nw_fm n w w' := by
  obtain ⟨-, f, c, rfl, hf⟩ := hw
  have hn4 := hJ.1.2.1
  have jS := j_sv hJ hs
  obtain ⟨q', q1, q2, q3, q4, q5, q6⟩ := jS.2.2.2.2.2.2.2 t ht
  have q2 : nw_I w (nw_S n s (20 + 2 * t)) 1 = nI q' := q2
  have hqq : q' = q := by
    rw [q2, nI_inj (by omega) (by omega)] at hq1
    exact hq1
  subst hqq
  obtain ⟨c1, c2, c3⟩ := j_out (off := 24 * (4 * s + t)) (row := S.1 19) q4 hf
  have e20 : (q_leaves S (4 * s + t) (nI i)).1 20 (4 * s + t) = nI c := by
    rw [q_leaves_20, q3, nI_clamp (by omega), c1]
  refine nw_J_q hJ hs (Nat.le_refl _) (nw_chg_I (nw_chg_I (nw_chg_r n s w) (by omega) _) (by omega) _) ⟨q_leaves_q hJ.2.1.1 (by omega) _, fun s' hs' => ?_, fun j hj => ?_⟩ (q_chg_lv (q_chg_r s S) (by omega) q1 q3) ?_
  · rw [q_leaves_1 (by decide) (by decide)]
    exact hJ.2.1.2.1 s' hs'
  · rw [q_leaves_1 (by decide) (by decide)]
    exact hJ.2.1.2.2 j hj
  · refine j_srv_bl jS (Nat.le_refl _) (fun k hk => ?_) rfl (fun f h1 h2 => q_leaves_1 h1 h2) rfl (fun t' ht' => ?_)
    · show nw_I (nw_setI _ _ _) (nw_S n s k) = _
      rw [nw_S_Ine (by omega), nw_S_Ine (by omega)]
      rfl
    · by_cases htt : t' = t
      · subst htt
        have k20 : nw_c n (nw_setI (nw_setI w (nw_S n s (21 + 2 * t')) f) (nw_S n s (20 + 2 * t')) (upd (nw_I w (nw_S n s (20 + 2 * t'))) 1 (nI c))) s (20 + 2 * t') = upd (nw_I w (nw_S n s (20 + 2 * t'))) 1 (nI c) := nw_S_Ieq
        have k21 : nw_c n (nw_setI (nw_setI w (nw_S n s (21 + 2 * t')) f) (nw_S n s (20 + 2 * t')) (upd (nw_I w (nw_S n s (20 + 2 * t'))) 1 (nI c))) s (21 + 2 * t') = f := by
          show nw_I _ _ = f
          rw [nw_S_Ine (by omega), nw_S_Ieq]
        rw [k20, k21, pk_us, e20]
        refine ⟨c, by omega, rfl, rfl, ?_, by rw [hf]; exact nw_out_nodup q5, fun x hx => ?_⟩
        · rw [c3, q_leaves_19, q3, nI_clamp (by omega)]
        · rw [hf, nw_out_mem] at hx
          obtain ⟨j, j1, j2, j3, j4⟩ := q6 x hx.1
          exact ⟨j, j1, j2, j3, by rw [q_leaves_1 (by decide) (by decide)]; exact j4⟩
      · have k20 : nw_c n (nw_setI (nw_setI w (nw_S n s (21 + 2 * t)) f) (nw_S n s (20 + 2 * t)) (upd (nw_I w (nw_S n s (20 + 2 * t))) 1 (nI c))) s (20 + 2 * t') = nw_c n w s (20 + 2 * t') := by
          show nw_I _ _ = nw_I _ _
          rw [nw_S_Ine (by omega), nw_S_Ine (by omega)]
        have k21 : nw_c n (nw_setI (nw_setI w (nw_S n s (21 + 2 * t)) f) (nw_S n s (20 + 2 * t)) (upd (nw_I w (nw_S n s (20 + 2 * t))) 1 (nI c))) s (21 + 2 * t') = nw_c n w s (21 + 2 * t') := by
          show nw_I _ _ = nw_I _ _
          rw [nw_S_Ine (by omega), nw_S_Ine (by omega)]
        rw [k20, k21]
        obtain ⟨r, r1, r2, r3, r4, r5, r6⟩ := jS.2.2.2.2.2.2.2 t' ht'
        refine ⟨r, r1, r2, (q_leaves_w (by omega)).trans r3, ?_, r5, fun x hx => ?_⟩
        · rw [r4]
          exact nw_pre_eq r (fun j hj => (q_leaves_x q1 q3 (by omega) (by omega)).symm)
        · obtain ⟨j, j1, j2, j3, j4⟩ := r6 x hx
          exact ⟨j, j1, j2, j3, by rw [q_leaves_1 (by decide) (by decide)]; exact j4⟩
-- into the lines
abbrev q_fc (S : nw_Q) (s i t : Nat) : Prop := bt (S.1 16 (41 * s + i)) t = false ∧ q_wantF S (4 * s + t) i (S.1 3 3).toNatClampNeg = true
theorem q_feedF_at {s i : Nat} (hq : ∀ t, t < n → ∃ q, q < 24 ∧ S.1 20 (4 * s + t) = nI q) (hn : n ≤ 4) : ∀ T, T ≤ n → q_chg s S (q_feedF S s i T) ∧ (∀ t, t < n → (q_feedF S s i T).1 20 (4 * s + t) = if t < T ∧ q_fc S s i t then S.1 20 (4 * s + t) + nI 1 else S.1 20 (4 * s + t)) ∧ ∀ t k, t < n → k < 24 → (q_feedF S s i T).1 19 (24 * (4 * s + t) + k) = if (t < T ∧ q_fc S s i t) ∧ k = (S.1 20 (4 * s + t)).toNatClampNeg then nI i else S.1 19 (24 * (4 * s + t) + k)
  | 0, _ => ⟨q_chg_r s S, fun t _ => by rw [if_neg (fun q => by omega)]; rfl, fun t k _ _ => by rw [if_neg (fun q => by omega)]; rfl⟩
  | T + 1, hT => by
    obtain ⟨h1, h2, h3⟩ := q_feedF_at (i := i) hq hn T (by omega)
    obtain ⟨q, q1, q2⟩ := hq T (by omega)
    have e20 : (q_feedF S s i T).1 20 (4 * s + T) = nI q := by
      rw [h2 T (by omega), if_neg (fun q => by omega), q2]
    by_cases hc : q_fc S s i T
    · simp only [q_feedF]
      rw [if_pos hc, e20, nI_clamp (by omega)]
      refine ⟨q_chg_i (q_chg_i h1 (by omega)) (by omega), fun t ht => ?_, fun t k ht hk => ?_⟩
      · by_cases htT : t = T
        · subst htT
          rw [if_pos ⟨by omega, hc⟩, q2]
          exact pk_us
        · simp only [show (t < T + 1) = (t < T) from propext (by omega)]; rw [← h2 t ht, q_i_x (by omega), q_i_x (by omega)]
      · by_cases htT : t = T
        · subst htT
          rw [q2, nI_clamp (by omega), q_i_x (by omega)]
          by_cases hkq : k = q
          · rw [if_pos ⟨⟨by omega, hc⟩, hkq⟩, hkq]
            exact pk_us
          · rw [if_neg (fun q => hkq q.2), q_i_x (by omega), h3 t k ht hk, if_neg (fun q => by omega)]
        · simp only [show (t < T + 1) = (t < T) from propext (by omega)]; rw [← h3 t k ht hk, q_i_x (by omega), q_i_x (by omega)]
    · simp only [q_feedF]
      rw [if_neg hc]
      refine ⟨h1, fun t ht => ?_, fun t k ht hk => ?_⟩
      · rw [h2 t ht]
        by_cases htT : t = T
        · subst htT
          rw [if_neg (fun q => by omega), if_neg (fun q => hc q.2)]
        · simp only [show (t < T + 1) = (t < T) from propext (by omega)]
      · rw [h3 t k ht hk]
        by_cases htT : t = T
        · subst htT
          rw [if_neg (fun q => by omega), if_neg (fun q => hc q.1.2)]
        · simp only [show (t < T + 1) = (t < T) from propext (by omega)]
theorem k_fcond_q (hJ : nw_J n w S B) {s i t G : Nat} (hs : s < n) (ht : t < n) (i1 : 1 ≤ i) (i2 : i ≤ 40) (hG : G ≤ 6) (h3 : S.1 3 3 = nI G) : k_fcond n s i w G t = true ↔ q_fc S s i t := by
  obtain ⟨-, -, ⟨-, -, -, -, G', g1, g2, g3⟩, h4, -⟩ := id hJ
  have hGG : G' = G := by
    rw [g2, nI_inj (by omega) (by omega)] at h3
    exact h3
  subst hGG
  have jS := j_sv hJ hs
  have e17 : nw_I w (nw_S n s 17) i = S.1 16 (41 * s + i) := (jS.1 i i1 i2).2.2.2.1
  obtain ⟨e18, e18b, -⟩ := jS.2.2.2.2.2.2.1 t ht
  have e2 : nw_I w (nw_A n + 1 + i) 2 = S.1 5 i := (h4 i i1 i2).2.1
  unfold k_fcond q_fc
  rw [e17, e18, e2, j_want (S := S) (l := 4 * s + t) (i := i) g3 e18b G' (Nat.le_refl _), g2, nI_clamp (by omega), Bool.and_eq_true, Bool.not_eq_true']
theorem nw_J_feed {s i G : Nat} (hJ : nw_J n w S B) (hs : s < n) (i1 : 1 ≤ i) (i2 : i ≤ 40) (h12 : S.1 12 (41 * s + i) = nI 1) (hG : G ≤ 6) (h3 : S.1 3 3 = nI G) (hno : ∀ t, t < n → ∃ q, q < 24 ∧ nw_I w (nw_S n s (20 + 2 * t)) 1 = nI q ∧ nI i ∉ nw_pre (nw_I w (nw_S n s (21 + 2 * t))) q) : nw_J n (k_feed n s i G w n) (q_feedF S s i n) B ∧ nw_fm n w (k_feed n s i G w n) := by
  have hn4 := hJ.1.2.1
  have jS := j_sv hJ hs
  have p8 := jS.2.2.2.2.2.2.2
  have hq : ∀ t, t < n → ∃ q, q < 24 ∧ S.1 20 (4 * s + t) = nI q := fun t ht => by
    obtain ⟨q, q1, q2, -⟩ := hno t ht
    obtain ⟨q', r1, r2, r3, -⟩ := p8 t ht
    have r2 : nw_I w (nw_S n s (20 + 2 * t)) 1 = nI q' := r2
    exact ⟨q, q1, by rw [r3, ← r2, q2]⟩
  obtain ⟨f1, f2, f3⟩ := q_feedF_at (i := i) hq hn4 n (Nat.le_refl _)
  obtain ⟨k1, k2, k3, k4⟩ := k_feed_ok n s i G w n
  have kc := fun t ht => k_fcond_q hJ (t := t) hs ht i1 i2 hG h3
  have hlow : ∀ f, f ≠ 19 → f ≠ 20 → (q_feedF S s i n).1 f = S.1 f := fun f h1 h2 => q_feedF_1 S s i h1 h2 n
  refine nw_J_q hJ hs (Nat.le_refl _) ⟨k1, fun a ha => ⟨k3 a (fun t ht => ⟨ha _ (by omega), ha _ (by omega)⟩), by rw [k2]⟩⟩ ⟨fun l hl => ?_, fun s' hs' => ?_, fun j hj => ?_⟩ f1 ?_
  · by_cases hls : ∃ t, t < n ∧ l = 4 * s + t
    · obtain ⟨t, ht, rfl⟩ := hls
      obtain ⟨q, q1, q2⟩ := hq t ht
      rw [f2 t ht, q2]
      split
      · exact ⟨q + 1, by omega, nI_add _ _⟩
      · exact ⟨q, by omega, rfl⟩
    · rw [q_feedF_w S s i n (fun t' ht' e => hls ⟨t', ht', e⟩)]
      exact hJ.2.1.1 l hl
  · rw [hlow 21 (by decide) (by decide)]
    exact hJ.2.1.2.1 s' hs'
  · rw [hlow 8 (by decide) (by decide)]
    exact hJ.2.1.2.2 j hj
  · refine j_srv_bl jS (Nat.le_refl _) (fun k hk => ?_) (by rw [k2]) hlow f1.1 (fun t ht => ?_)
    · exact k3 _ (fun t ht => by rw [Ne, Ne, nw_Sk, nw_Sk]; omega)
    · obtain ⟨q', q1, q2, q3⟩ := hno t ht
      obtain ⟨q, r1, r2, r3, r4, r5, r6⟩ := p8 t ht
      have r2 : nw_I w (nw_S n s (20 + 2 * t)) 1 = nI q := r2
      have hqq : q' = q := by
        rw [r2, nI_inj (by omega) (by omega)] at q2
        exact q2.symm
      subst hqq
      have e20 : nw_c n (k_feed n s i G w n) s (20 + 2 * t) = _ := (k4 t ht).1
      have e21 : nw_c n (k_feed n s i G w n) s (21 + 2 * t) = _ := (k4 t ht).2
      have r4 : nw_pre (nw_I w (nw_S n s (21 + 2 * t))) q' = _ := r4
      have r5 : (nw_pre (nw_I w (nw_S n s (21 + 2 * t))) q').Nodup := r5
      have r6 : ∀ x ∈ nw_pre (nw_I w (nw_S n s (21 + 2 * t))) q', _ := r6
      rw [e20, e21, f2 t ht]
      by_cases hc : q_fc S s i t
      · rw [if_pos ((kc t ht).mpr hc), if_pos ((kc t ht).mpr hc), if_pos ⟨ht, hc⟩, r2, nI_clamp (by omega), pk_us, r3]
        have eL : nw_pre (upd (nw_I w (nw_S n s (21 + 2 * t))) q' (nI i)) (q' + 1) = nw_pre (nw_I w (nw_S n s (21 + 2 * t))) q' ++ [nI i] := by
          show nw_pre _ q' ++ [upd (nw_I w (nw_S n s (21 + 2 * t))) q' (nI i) q'] = _
          rw [pk_us, nw_pre_eq q' (g := nw_I w (nw_S n s (21 + 2 * t))) (fun j hj => pk_un (by omega))]
        have eR : nw_pre (fun k => (q_feedF S s i n).1 19 (24 * (4 * s + t) + k)) (q' + 1) = nw_pre (fun k => S.1 19 (24 * (4 * s + t) + k)) q' ++ [nI i] := by
          show nw_pre _ q' ++ [(q_feedF S s i n).1 19 (24 * (4 * s + t) + q')] = _
          rw [f3 t q' ht q1, r3, nI_clamp (by omega), if_pos ⟨⟨ht, hc⟩, rfl⟩]
          refine congrArg (· ++ [nI i]) (nw_pre_eq q' (fun j hj => ?_))
          show (q_feedF S s i n).1 19 (24 * (4 * s + t) + j) = _
          rw [f3 t j ht (by omega), r3, nI_clamp (by omega), if_neg (fun z => by omega)]
        refine ⟨q' + 1, by omega, rfl, nI_add _ _, ?_, ?_, fun x hx => ?_⟩
        · rw [eL, eR, r4]
        · rw [eL]
          exact List.nodup_append.mpr ⟨r5, List.nodup_cons.mpr ⟨List.not_mem_nil, List.nodup_nil⟩, fun a ha b hb e => q3 (by rw [List.mem_singleton] at hb; rw [← hb, ← e]; exact ha)⟩
        · rw [eL, List.mem_append, List.mem_singleton] at hx
          rcases hx with hx | hx
          · obtain ⟨j, j1, j2, j3, j4⟩ := r6 x hx
            exact ⟨j, j1, j2, j3, by rw [hlow 12 (by decide) (by decide)]; exact j4⟩
          · exact ⟨i, i1, i2, hx, by rw [hlow 12 (by decide) (by decide)]; exact h12⟩
      · rw [if_neg (fun z => hc ((kc t ht).mp z)), if_neg (fun z => hc ((kc t ht).mp z)), if_neg (fun z => hc z.2)]
        refine ⟨q', by omega, r2, r3, ?_, r5, fun x hx => ?_⟩
        · rw [r4]
          refine nw_pre_eq q' (fun j hj => ?_)
          show _ = (q_feedF S s i n).1 19 (24 * (4 * s + t) + j)
          rw [f3 t j ht (by omega), if_neg (fun z => hc z.1.2)]
        · obtain ⟨j, j1, j2, j3, j4⟩ := r6 x hx
          exact ⟨j, j1, j2, j3, by rw [hlow 12 (by decide) (by decide)]; exact j4⟩
end NX
