/-! what a call does at one server -/
abbrev q_mine (s f k : Nat) : Prop := ((f = 10 ∨ f = 11) ∧ 6 * s ≤ k ∧ k < 6 * s + 6) ∨ (12 ≤ f ∧ f ≤ 16 ∧ 41 * s ≤ k ∧ k < 41 * s + 41) ∨ (f = 17 ∧ 246 * s ≤ k ∧ k < 246 * s + 246) ∨ (f = 19 ∧ 96 * s ≤ k ∧ k < 96 * s + 96) ∨ (f = 20 ∧ 4 * s ≤ k ∧ k < 4 * s + 4) ∨ (21 ≤ f ∧ k = s)
/-- only rows of server s have changed -/
def q_chg (s : Nat) (S S' : nw_Q) : Prop := S'.2 = S.2 ∧ ∀ f k, ¬ q_mine s f k → S'.1 f k = S.1 f k
theorem q_chg_r (s : Nat) (S : nw_Q) : q_chg s S S := ⟨rfl, fun _ _ _ => rfl⟩
theorem q_chg_t {s : Nat} {S S' S'' : nw_Q} (h1 : q_chg s S S') (h2 : q_chg s S' S'') : q_chg s S S'' := ⟨h2.1.trans h1.1, fun f k h => (h2.2 f k h).trans (h1.2 f k h)⟩
theorem q_chg_i {s f k : Nat} {S S' : nw_Q} {x : Int32} (h : q_chg s S S') (hm : q_mine s f k) : q_chg s S (q_i S' f k x) := ⟨h.1, fun f' k' h' => (q_i_x (fun e q => h' (by rw [e, q]; exact hm))).trans (h.2 f' k' h')⟩
theorem q_chg_low {s f : Nat} {S S' : nw_Q} (h : q_chg s S S') (hf : f < 10) : S'.1 f = S.1 f := funext fun k => h.2 f k (by omega)
theorem q_chg_at {s t : Nat} {S S' : nw_Q} (h : q_chg s S S') (hts : t ≠ s) : q_at t S S' := by
  obtain ⟨h2, h1⟩ := h
  refine ⟨fun i a b => ⟨h1 _ _ (by omega), h1 _ _ (by omega), h1 _ _ (by omega), h1 _ _ (by omega), h1 _ _ (by omega)⟩, fun g hg => ⟨h1 _ _ (by omega), h1 _ _ (by omega)⟩, fun i g a b hg => h1 _ _ (by omega), fun f a b => h1 _ _ (by omega), fun t' ht => ⟨by rw [h2], h1 _ _ (by omega)⟩, fun t' k ht hk => h1 _ _ (by omega)⟩
theorem q_leaves_19 {S : nw_Q} {l : Nat} {id : Int32} : (q_leaves S l id).1 19 = (q_lvF (S.1 19) (24 * l) id (S.1 20 l).toNatClampNeg).2 := rfl
theorem q_leaves_20 {S : nw_Q} {l : Nat} {id : Int32} : (q_leaves S l id).1 20 l = nI (q_lvF (S.1 19) (24 * l) id (S.1 20 l).toNatClampNeg).1 := pk_us
theorem q_leaves_x {S : nw_Q} {l q : Nat} {id : Int32} (hq : q ≤ 24) (h : S.1 20 l = nI q) {f k : Nat} (hf : f = 20 → k ≠ l) (hg : f = 19 → k < 24 * l ∨ 24 * l + 24 ≤ k) : (q_leaves S l id).1 f k = S.1 f k := by
  by_cases h20 : f = 20
  · rw [h20]
    exact q_leaves_w (hf h20)
  · by_cases h19 : f = 19
    · rw [h19, q_leaves_19, h, nI_clamp (by omega)]
      exact (q_lvF_ok (S.1 19) (24 * l) id q).2.2 k (by have := hg h19; omega)
    · rw [q_leaves_1 h19 h20]
theorem q_chg_lv {s t q : Nat} {S S' : nw_Q} {id : Int32} (h : q_chg s S S') (ht : t < 4) (hq : q ≤ 24) (h20 : S'.1 20 (4 * s + t) = nI q) : q_chg s S (q_leaves S' (4 * s + t) id) := ⟨h.1, fun f k hm => (q_leaves_x hq h20 (by omega) (by omega)).trans (h.2 f k hm)⟩
theorem nw_fm_t {n : Nat} {u v w : nw_W} (h1 : nw_fm n u v) (h2 : nw_fm n v w) : nw_fm n u w := ⟨h2.1.trans h1.1, fun a ha => ⟨(h2.2 a ha).1.trans (h1.2 a ha).1, (h2.2 a ha).2.trans (h1.2 a ha).2⟩⟩
theorem nw_J_q {n B B' s : Nat} {w w' : nw_W} {S S' : nw_Q} (hJ : nw_J n w S B) (hs : s < n) (hBB : B ≤ B') (hc : nw_chg n s w w') (href : j_ref S') (hq : q_chg s S S') (hsv : j_srv n s (nw_c n w' s) (nw_L w' (nw_S n s 18)) S' B') : nw_J n w' S' B' ∧ nw_fm n w w' := by
  obtain ⟨h1, -, h5, h6, h7⟩ := hJ
  refine ⟨⟨nw_Ok_1 hc.1 h1, href, ?_, fun i a b => ?_, fun t ht => ?_⟩, nw_chg_fm hc hs⟩
  · unfold j_glob
    rw [q_chg_low hq (f := 3) (by omega), hq.1, nw_chg_1 hc, (nw_chg_A hc hs).2]
    exact h5
  · have := h6 i a b
    unfold j_art at this ⊢
    rw [q_chg_low hq (f := 5) (by omega), q_chg_low hq (f := 6) (by omega), q_chg_low hq (f := 7) (by omega), q_chg_low hq (f := 8) (by omega), q_chg_low hq (f := 9) (by omega), show nw_A n + 1 + i = nw_A n + (1 + i) by omega, (nw_chg_A hc hs).1, show nw_A n + (1 + i) = nw_A n + 1 + i by omega]
    exact this
  · by_cases hts : t = s
    · rw [hts]
      exact hsv
    · exact j_srv_c (h7 t ht) h1.2.1 (fun k hk => (nw_chg_c hc hts hk).1) (nw_chg_c hc hts (by omega)).2 hBB (q_chg_at hq hts) (fun i _ _ q => ⟨by rw [q_chg_low hq (f := 9) (by omega)]; exact q, by rw [q_chg_low hq (f := 7) (by omega)]⟩)
/-- what an unread part of a server's rows is: all but what is told -/
theorem q_chg_kp {s : Nat} {S S' : nw_Q} (hq : q_chg s S S') : j_keep S S' := fun i _ _ q => ⟨by rw [q_chg_low hq (f := 9) (by omega)]; exact q, by rw [q_chg_low hq (f := 7) (by omega)]⟩
theorem q_roomF_eq {S S' : nw_Q} {s : Nat} {m : Int32} (h : ∀ b, q_run S' s b = q_run S s b) : ∀ d b, q_roomF S' s m d b = q_roomF S s m d b
  | 0, _ => rfl
  | d + 1, b => by simp only [q_roomF, h b, q_roomF_eq h d (b + 1)]
theorem q_room_9 {S : nw_Q} {s i : Nat} {m x : Int32} : q_room (q_i S 9 i x) s m = q_room S s m := by
  have h : q_free (q_i S 9 i x) s = q_free S s := rfl
  unfold q_room
  refine q_roomF_eq (fun b => ?_) 24 0
  unfold q_run
  rw [h]
theorem q_i_comm {S : nw_Q} {f f' k k' : Nat} {x x' : Int32} (h : f ≠ f') : q_i (q_i S f k x) f' k' x' = q_i (q_i S f' k' x') f k x := by
  refine Prod.ext (funext fun g => ?_) rfl
  rw [q_i_1, q_i_1, q_i_1, q_i_1, q_i_1, q_i_1, if_neg h, if_neg h.symm]
  by_cases h1 : g = f
  · have : ¬ g = f' := by omega
    simp only [if_pos h1, if_neg this]
  · simp only [if_neg h1]
theorem q_begin_9 {S : nw_Q} {s i : Nat} {sd way : Int32} : q_i (q_begin S s i sd way) 9 i (nI 1) = q_begin (q_i S 9 i (nI 1)) s i sd way := by
  unfold q_begin
  rw [q_room_9, q_i_comm (f := 24) (by omega), q_i_comm (f := 25) (by omega), q_i_comm (f := 22) (by omega), q_i_comm (f := 21) (by omega), q_i_comm (f := 23) (by omega)]
  rfl
section NV
variable {n B : Nat} {w : nw_W} {S : nw_Q}
theorem nw_J_begin {s i m k : Nat} {sd way p : Int32} (hJ : nw_J n w S B) (hs : s < n) (i1 : 1 ≤ i) (i2 : i ≤ 40) (h9 : S.1 9 i = nI 1) (h7 : S.1 7 i = nI m) (m1 : 1 ≤ m) (m8 : m ≤ 8) (h12 : S.1 12 (41 * s + i) = nI 0) (h21 : S.1 21 s = nI 0) (he : q_ents S s < 24) (hr : q_room S s (nI m) = nI k) (hk : k + m ≤ 24) (hall : nw_all (nw_fr0 (nw_I w (nw_S n s 2))) k m) (hsd : sd = -1 ∨ ∃ t, t < n ∧ sd = nI t) (hp : p = way ||| nI 1 <<< (nI s &&& 31)) :
    nw_J n (nw_setI (nw_setI w (nw_S n s 2) (fun x => if k ≤ x ∧ x < k + m then nI i else nw_I w (nw_S n s 2) x)) (nw_S n s 6) (upd (upd (upd (upd (nw_I w (nw_S n s 6)) 0 (nI i)) 1 (nI m)) 2 p) 3 sd)) (q_begin S s i sd way) (B + 1) ∧ nw_fm n w (nw_setI (nw_setI w (nw_S n s 2) (fun x => if k ≤ x ∧ x < k + m then nI i else nw_I w (nw_S n s 2) x)) (nw_S n s 6) (upd (upd (upd (upd (nw_I w (nw_S n s 6)) 0 (nI i)) 1 (nI m)) 2 p) 3 sd)) := by
  have hn4 := hJ.1.2.1
  obtain ⟨p1, p2, p3, p4, p5, p6, p7, p8⟩ := j_sv hJ hs
  obtain ⟨S', hS'⟩ : ∃ S', S' = q_begin S s i sd way := ⟨_, rfl⟩
  obtain ⟨w', hw'⟩ : ∃ w', w' = nw_setI (nw_setI w (nw_S n s 2) (fun x => if k ≤ x ∧ x < k + m then nI i else nw_I w (nw_S n s 2) x)) (nw_S n s 6) (upd (upd (upd (upd (nw_I w (nw_S n s 6)) 0 (nI i)) 1 (nI m)) 2 p) 3 sd) := ⟨_, rfl⟩
  rw [← hS', ← hw']
  have hI : ∀ j, j ≠ 2 → j ≠ 6 → nw_c n w' s j = nw_c n w s j := fun j a b => by
    show nw_I w' (nw_S n s j) = _
    rw [hw', nw_S_Ine b, nw_S_Ine a]
    rfl
  have hI2 : nw_c n w' s 2 = fun x => if k ≤ x ∧ x < k + m then nI i else nw_I w (nw_S n s 2) x := by
    show nw_I w' (nw_S n s 2) = _
    rw [hw', nw_S_Ine (by decide), nw_S_Ieq]
  have hI6 : nw_c n w' s 6 = upd (upd (upd (upd (nw_I w (nw_S n s 6)) 0 (nI i)) 1 (nI m)) 2 p) 3 sd := by
    show nw_I w' (nw_S n s 6) = _
    rw [hw', nw_S_Ieq]
  have e : ∀ f, f < 21 ∨ 25 < f → S'.1 f = S.1 f := fun f hf => by
    rw [hS']
    unfold q_begin
    rw [q_i_1, if_neg (by omega), q_i_1, if_neg (by omega), q_i_1, if_neg (by omega), q_i_1, if_neg (by omega), q_i_1, if_neg (by omega)]
  have e21 : S'.1 21 s = nI i := by rw [hS']; exact pk_us
  have e22 : S'.1 22 s = nI m := by rw [hS', ← h7]; exact pk_us
  have e23 : S'.1 23 s = nI k := by rw [hS', ← hr, ← h7]; exact pk_us
  have e24 : S'.1 24 s = p := by rw [hS', hp]; exact pk_us
  have e25 : S'.1 25 s = sd := by rw [hS']; exact pk_us
  have hq : q_chg s S S' := by
    rw [hS']
    unfold q_begin
    exact q_chg_i (q_chg_i (q_chg_i (q_chg_i (q_chg_i (q_chg_r s S) (by omega)) (by omega)) (by omega)) (by omega)) (by omega)
  have kp := q_chg_kp hq
  have s12 := e 12 (by omega)
  have hch : nw_chg n s w w' := by
    rw [hw']
    exact nw_chg_I (nw_chg_I (nw_chg_r n s w) (by omega) _) (by omega) _
  have href : j_ref S' := by
    rw [hS']
    unfold q_begin
    exact j_ref_i (j_ref_i (j_ref_i (j_ref_i (j_ref_i hJ.2.1 (Or.inl (by decide))) (Or.inr (Or.inl ⟨by decide, i, i2, rfl⟩))) (Or.inl (by decide))) (Or.inl (by decide))) (Or.inl (by decide))
  have hL : nw_L w' (nw_S n s 18) = nw_L w (nw_S n s 18) := by rw [hw']; rfl
  refine nw_J_q hJ hs (by omega) hch href hq ?_
  refine ⟨j_ent_c p1 ⟨hI 4 (by omega) (by omega), hI 5 (by omega) (by omega), hI 16 (by omega) (by omega), hI 17 (by omega) (by omega)⟩ (fun i _ _ => ⟨by rw [s12], by rw [e 13 (by omega)], by rw [e 14 (by omega)], by rw [e 16 (by omega)]⟩) kp, j_grp_c p2 ⟨hI 7 (by omega) (by omega), hI 8 (by omega) (by omega), fun g hg => hI (10 + g) (by omega) (by omega)⟩ (by omega) (fun g hg => ⟨by rw [e 10 (by omega)], by rw [e 11 (by omega)]⟩) (fun i g _ _ _ => by rw [e 17 (by omega)]) (fun i _ _ => Or.inr (Or.inr (by rw [s12]))) (fun i _ _ q => by rw [s12]; exact q), j_cnt_c p3 (hI 3 (by omega) (by omega)) (fun i _ _ => by rw [s12]), ?_, j_sel_c p5 (hI 0 (by omega) (by omega)) (by omega) ⟨by rw [e 26 (by omega)], by rw [e 27 (by omega)]⟩, ?_, j_pat_c p7 hL (fun t _ => by rw [hq.1]), j_bl_c p8 (fun t ht => ⟨hI _ (by omega) (by omega), hI _ (by omega) (by omega)⟩) (fun t _ => by rw [e 20 (by omega)]) (fun t k _ _ => by rw [e 19 (by omega)]) (fun i _ _ q => by rw [s12]; exact q)⟩
  · unfold j_int
    rw [e21, e22, e24, e25, hI6, pk_us, pk_un (by decide), pk_un (by decide), pk_un (by decide), pk_us, pk_un (by decide), pk_un (by decide), pk_us, pk_un (by decide), pk_us, q_ents_c (S := S) (S' := S') (fun i _ _ => by rw [s12])]
    exact ⟨rfl, Or.inr ⟨i, i1, i2, rfl, rfl, rfl, rfl, by rw [e 9 (by omega)]; exact h9, by rw [s12]; exact h12, he, ⟨m, m1, m8, rfl⟩, hsd⟩⟩
  · have hfree : ∀ b, k ≤ b → b < k + m → nw_I w (nw_S n s 2) b = nI 0 := fun b b1 b2 => by
      have := hall b b1 b2
      unfold nw_fr0 at this
      exact of_decide_eq_true this
    have hne : ∀ j, 1 ≤ j → j ≤ 40 → ∀ b, nw_I w (nw_S n s 2) b = nI j → ¬ (k ≤ b ∧ b < k + m) := fun j j1 j2 b hb hr => by
      rw [hfree b hr.1 hr.2, nI_inj (by omega) (by omega)] at hb
      omega
    obtain ⟨o1, o2⟩ := p6
    rw [hI2]
    unfold j_own
    refine ⟨fun b hb => ?_, fun j j1 j2 => ?_⟩
    · by_cases hr : k ≤ b ∧ b < k + m
      · exact ⟨i, i2, if_pos hr⟩
      · obtain ⟨j, j1, j2⟩ := o1 b hb
        exact ⟨j, j1, (if_neg hr).trans j2⟩
    · obtain ⟨a1, a2, a3⟩ := o2 j j1 j2
      rw [s12, e 15 (by omega), e21, e23]
      by_cases hji : j = i
      · subst hji
        refine ⟨fun q => ?_, fun _ => ?_, fun _ q => absurd rfl q⟩
        · rw [h12, nI_inj (by omega) (by omega)] at q
          omega
        · refine ⟨k, m, rfl, by rw [e 7 (by omega)]; exact h7, m1, m8, hk, fun b hb => ?_⟩
          by_cases hr : k ≤ b ∧ b < k + m
          · exact ⟨fun _ => hr, fun _ => if_pos hr⟩
          · simp only [if_neg hr]
            refine ⟨fun q => absurd q (a3 ?_ ?_ b hb), fun q => absurd q hr⟩
            · rw [h12, ne_eq, nI_inj (by omega) (by omega)]
              omega
            · rw [h21, ne_eq, nI_inj (by omega) (by omega)]
              omega
      · have hb' : ∀ b, b < 24 → ((if k ≤ b ∧ b < k + m then nI i else nw_I w (nw_S n s 2) b) = nI j ↔ nw_I w (nw_S n s 2) b = nI j) := fun b hb => by
          by_cases hr : k ≤ b ∧ b < k + m
          · rw [if_pos hr, hfree b hr.1 hr.2, nI_inj (by omega) (by omega), nI_inj (by omega) (by omega)]
            omega
          · rw [if_neg hr]
        refine ⟨fun q => ?_, fun q => ?_, fun q _ b hb r => ?_⟩
        · obtain ⟨k', m', b1, b2, b3, b4, b5, b6⟩ := a1 q
          exact ⟨k', m', b1, by rw [e 7 (by omega)]; exact b2, b3, b4, b5, fun b hb => (hb' b hb).trans (b6 b hb)⟩
        · rw [nI_inj (by omega) (by omega)] at q
          omega
        · refine a3 q ?_ b hb ((hb' b hb).mp r)
          rw [h21, ne_eq, nI_inj (by omega) (by omega)]
          omega
end NV
