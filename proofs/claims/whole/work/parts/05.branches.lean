section NWB
variable {M : nw_M} {pc : Nat} {lv st : List Value} {w : nw_W} {bc bs : Nat} {Q : Option Value → nw_W → Prop}
theorem V_if_eq {x : Int32} {off : Int} {tgt : Nat} (hd : decode (nw_cc M) pc = .ok (.ifCond .eq off, 3)) (ht : (pc : Int) + off = (tgt : Int)) (kt : x = 0 → V M tgt lv st w bc bs Q) (kf : ¬ x = 0 → V M (pc + 3) lv st w bc bs Q) : V M pc lv (.int x :: st) w bc bs Q := by
  intro p l e R s m args below meth c H locs cells slots Z ls D dA b base hM hR hlo hl hc hs hr
  exact lv_if_eq hM.1 hM.2.1 hd ht (fun h => kt h p l e R s m args below meth c H locs cells slots Z ls D dA b base hM hR hlo hl hc hs hr) (fun h => kf h p l e R s m args below meth c H locs cells slots Z ls D dA b base hM hR hlo hl hc hs hr)
theorem V_icmp_eq {x y : Int32} {off : Int} {tgt : Nat} (hd : decode (nw_cc M) pc = .ok (.if_icmp .eq off, 3)) (ht : (pc : Int) + off = (tgt : Int)) (kt : x = y → V M tgt lv st w bc bs Q) (kf : ¬ x = y → V M (pc + 3) lv st w bc bs Q) : V M pc lv (.int y :: .int x :: st) w bc bs Q := by
  intro p l e R s m args below meth c H locs cells slots Z ls D dA b base hM hR hlo hl hc hs hr
  exact lv_icmp_eq hM.1 hM.2.1 hd ht (fun h => kt h p l e R s m args below meth c H locs cells slots Z ls D dA b base hM hR hlo hl hc hs hr) (fun h => kf h p l e R s m args below meth c H locs cells slots Z ls D dA b base hM hR hlo hl hc hs hr)
theorem V_if_ne {x : Int32} {off : Int} {tgt : Nat} (hd : decode (nw_cc M) pc = .ok (.ifCond .ne off, 3)) (ht : (pc : Int) + off = (tgt : Int)) (kt : ¬ x = 0 → V M tgt lv st w bc bs Q) (kf : x = 0 → V M (pc + 3) lv st w bc bs Q) : V M pc lv (.int x :: st) w bc bs Q := by
  intro p l e R s m args below meth c H locs cells slots Z ls D dA b base hM hR hlo hl hc hs hr
  exact lv_if_ne hM.1 hM.2.1 hd ht (fun h => kt h p l e R s m args below meth c H locs cells slots Z ls D dA b base hM hR hlo hl hc hs hr) (fun h => kf h p l e R s m args below meth c H locs cells slots Z ls D dA b base hM hR hlo hl hc hs hr)
theorem V_icmp_ne {x y : Int32} {off : Int} {tgt : Nat} (hd : decode (nw_cc M) pc = .ok (.if_icmp .ne off, 3)) (ht : (pc : Int) + off = (tgt : Int)) (kt : ¬ x = y → V M tgt lv st w bc bs Q) (kf : x = y → V M (pc + 3) lv st w bc bs Q) : V M pc lv (.int y :: .int x :: st) w bc bs Q := by
  intro p l e R s m args below meth c H locs cells slots Z ls D dA b base hM hR hlo hl hc hs hr
  exact lv_icmp_ne hM.1 hM.2.1 hd ht (fun h => kt h p l e R s m args below meth c H locs cells slots Z ls D dA b base hM hR hlo hl hc hs hr) (fun h => kf h p l e R s m args below meth c H locs cells slots Z ls D dA b base hM hR hlo hl hc hs hr)
theorem V_if_lt {x : Int32} {off : Int} {tgt : Nat} (hd : decode (nw_cc M) pc = .ok (.ifCond .lt off, 3)) (ht : (pc : Int) + off = (tgt : Int)) (kt : x < 0 → V M tgt lv st w bc bs Q) (kf : ¬ x < 0 → V M (pc + 3) lv st w bc bs Q) : V M pc lv (.int x :: st) w bc bs Q := by
  intro p l e R s m args below meth c H locs cells slots Z ls D dA b base hM hR hlo hl hc hs hr
  exact lv_if_lt hM.1 hM.2.1 hd ht (fun h => kt h p l e R s m args below meth c H locs cells slots Z ls D dA b base hM hR hlo hl hc hs hr) (fun h => kf h p l e R s m args below meth c H locs cells slots Z ls D dA b base hM hR hlo hl hc hs hr)
theorem V_icmp_lt {x y : Int32} {off : Int} {tgt : Nat} (hd : decode (nw_cc M) pc = .ok (.if_icmp .lt off, 3)) (ht : (pc : Int) + off = (tgt : Int)) (kt : x < y → V M tgt lv st w bc bs Q) (kf : ¬ x < y → V M (pc + 3) lv st w bc bs Q) : V M pc lv (.int y :: .int x :: st) w bc bs Q := by
  intro p l e R s m args below meth c H locs cells slots Z ls D dA b base hM hR hlo hl hc hs hr
  exact lv_icmp_lt hM.1 hM.2.1 hd ht (fun h => kt h p l e R s m args below meth c H locs cells slots Z ls D dA b base hM hR hlo hl hc hs hr) (fun h => kf h p l e R s m args below meth c H locs cells slots Z ls D dA b base hM hR hlo hl hc hs hr)
theorem V_if_ge {x : Int32} {off : Int} {tgt : Nat} (hd : decode (nw_cc M) pc = .ok (.ifCond .ge off, 3)) (ht : (pc : Int) + off = (tgt : Int)) (kt : 0 ≤ x → V M tgt lv st w bc bs Q) (kf : ¬ 0 ≤ x → V M (pc + 3) lv st w bc bs Q) : V M pc lv (.int x :: st) w bc bs Q := by
  intro p l e R s m args below meth c H locs cells slots Z ls D dA b base hM hR hlo hl hc hs hr
  exact lv_if_ge hM.1 hM.2.1 hd ht (fun h => kt h p l e R s m args below meth c H locs cells slots Z ls D dA b base hM hR hlo hl hc hs hr) (fun h => kf h p l e R s m args below meth c H locs cells slots Z ls D dA b base hM hR hlo hl hc hs hr)
theorem V_icmp_ge {x y : Int32} {off : Int} {tgt : Nat} (hd : decode (nw_cc M) pc = .ok (.if_icmp .ge off, 3)) (ht : (pc : Int) + off = (tgt : Int)) (kt : y ≤ x → V M tgt lv st w bc bs Q) (kf : ¬ y ≤ x → V M (pc + 3) lv st w bc bs Q) : V M pc lv (.int y :: .int x :: st) w bc bs Q := by
  intro p l e R s m args below meth c H locs cells slots Z ls D dA b base hM hR hlo hl hc hs hr
  exact lv_icmp_ge hM.1 hM.2.1 hd ht (fun h => kt h p l e R s m args below meth c H locs cells slots Z ls D dA b base hM hR hlo hl hc hs hr) (fun h => kf h p l e R s m args below meth c H locs cells slots Z ls D dA b base hM hR hlo hl hc hs hr)
theorem V_if_gt {x : Int32} {off : Int} {tgt : Nat} (hd : decode (nw_cc M) pc = .ok (.ifCond .gt off, 3)) (ht : (pc : Int) + off = (tgt : Int)) (kt : 0 < x → V M tgt lv st w bc bs Q) (kf : ¬ 0 < x → V M (pc + 3) lv st w bc bs Q) : V M pc lv (.int x :: st) w bc bs Q := by
  intro p l e R s m args below meth c H locs cells slots Z ls D dA b base hM hR hlo hl hc hs hr
  exact lv_if_gt hM.1 hM.2.1 hd ht (fun h => kt h p l e R s m args below meth c H locs cells slots Z ls D dA b base hM hR hlo hl hc hs hr) (fun h => kf h p l e R s m args below meth c H locs cells slots Z ls D dA b base hM hR hlo hl hc hs hr)
theorem V_icmp_gt {x y : Int32} {off : Int} {tgt : Nat} (hd : decode (nw_cc M) pc = .ok (.if_icmp .gt off, 3)) (ht : (pc : Int) + off = (tgt : Int)) (kt : y < x → V M tgt lv st w bc bs Q) (kf : ¬ y < x → V M (pc + 3) lv st w bc bs Q) : V M pc lv (.int y :: .int x :: st) w bc bs Q := by
  intro p l e R s m args below meth c H locs cells slots Z ls D dA b base hM hR hlo hl hc hs hr
  exact lv_icmp_gt hM.1 hM.2.1 hd ht (fun h => kt h p l e R s m args below meth c H locs cells slots Z ls D dA b base hM hR hlo hl hc hs hr) (fun h => kf h p l e R s m args below meth c H locs cells slots Z ls D dA b base hM hR hlo hl hc hs hr)
theorem V_if_le {x : Int32} {off : Int} {tgt : Nat} (hd : decode (nw_cc M) pc = .ok (.ifCond .le off, 3)) (ht : (pc : Int) + off = (tgt : Int)) (kt : x ≤ 0 → V M tgt lv st w bc bs Q) (kf : ¬ x ≤ 0 → V M (pc + 3) lv st w bc bs Q) : V M pc lv (.int x :: st) w bc bs Q := by
  intro p l e R s m args below meth c H locs cells slots Z ls D dA b base hM hR hlo hl hc hs hr
  exact lv_if_le hM.1 hM.2.1 hd ht (fun h => kt h p l e R s m args below meth c H locs cells slots Z ls D dA b base hM hR hlo hl hc hs hr) (fun h => kf h p l e R s m args below meth c H locs cells slots Z ls D dA b base hM hR hlo hl hc hs hr)
theorem V_icmp_le {x y : Int32} {off : Int} {tgt : Nat} (hd : decode (nw_cc M) pc = .ok (.if_icmp .le off, 3)) (ht : (pc : Int) + off = (tgt : Int)) (kt : x ≤ y → V M tgt lv st w bc bs Q) (kf : ¬ x ≤ y → V M (pc + 3) lv st w bc bs Q) : V M pc lv (.int y :: .int x :: st) w bc bs Q := by
  intro p l e R s m args below meth c H locs cells slots Z ls D dA b base hM hR hlo hl hc hs hr
  exact lv_icmp_le hM.1 hM.2.1 hd ht (fun h => kt h p l e R s m args below meth c H locs cells slots Z ls D dA b base hM hR hlo hl hc hs hr) (fun h => kf h p l e R s m args below meth c H locs cells slots Z ls D dA b base hM hR hlo hl hc hs hr)
theorem V_goto {off : Int} {tgt : Nat} (hd : decode (nw_cc M) pc = .ok (.goto off, 3)) (ht : (pc : Int) + off = (tgt : Int)) (k : V M tgt lv st w bc bs Q) : V M pc lv st w bc bs Q :=
  V_go (fun _ _ _ _ _ _ _ _ _ _ _ _ _ _ _ _ _ _ _ _ hM _ _ kk => lv_goto hM.1 hM.2.1 hd ht kk) k
theorem V_tableIn {dflt lo hi : Int} {offs : Array Int} {len : Nat} {x : Int32} {off : Int} {tgt : Nat} (hd : decode (nw_cc M) pc = .ok (.tableswitch dflt lo hi offs, len)) (h1 : ¬ x.toInt < lo) (h2 : ¬ hi < x.toInt) (ho : offs[(x.toInt - lo).toNat]? = some off) (ht : (pc : Int) + off = (tgt : Int)) (k : V M tgt lv st w bc bs Q) : V M pc lv (.int x :: st) w bc bs Q :=
  V_go (fun _ _ _ _ _ _ _ _ _ _ _ _ _ _ _ _ _ _ _ _ hM _ _ kk => lv_tableIn hM.1 hM.2.1 hd h1 h2 ho ht kk) k
theorem V_tableOut {dflt lo hi : Int} {offs : Array Int} {len : Nat} {x : Int32} {tgt : Nat} (hd : decode (nw_cc M) pc = .ok (.tableswitch dflt lo hi offs, len)) (h : x.toInt < lo ∨ hi < x.toInt) (ht : (pc : Int) + dflt = (tgt : Int)) (k : V M tgt lv st w bc bs Q) : V M pc lv (.int x :: st) w bc bs Q :=
  V_go (fun _ _ _ _ _ _ _ _ _ _ _ _ _ _ _ _ _ _ _ _ hM _ _ kk => lv_tableOut hM.1 hM.2.1 hd h ht kk) k
theorem V_lookup {dflt : Int} {ps : Array (Int × Int)} {len : Nat} {x : Int32} {off : Int} {tgt : Nat} (hd : decode (nw_cc M) pc = .ok (.lookupswitch dflt ps, len)) (hp : (ps.toList.zip (ps.toList.drop 1)).all (fun (a, next) => a.1 < next.1) = true) (ho : Op.lookupswitch.offset ps.toList dflt x.toInt = off) (ht : (pc : Int) + off = (tgt : Int)) (k : V M tgt lv st w bc bs Q) : V M pc lv (.int x :: st) w bc bs Q :=
  V_go (fun _ _ _ _ _ _ _ _ _ _ _ _ _ _ _ _ _ _ _ _ hM _ _ kk => lv_lookup hM.1 hM.2.1 hd hp ho ht kk) k
end NWB
