section BR
variable {E : AE} {M : AM} {d pc : Nat} {L : AL} {st : List Value} {h : AH} {o : AR0} {h' : AH} {mc ms : Nat}
theorem AR.eq {off : Int} {tgt : Nat} {x : Int32} (hd : decode M.bytes pc = .ok (.ifCond .eq off, 3)) (ht : (pc : Int) + off = (tgt : Int)) (kt : x = 0 → AR E M d tgt L st h o h' mc ms) (kf : ¬ x = 0 → AR E M d (pc + 3) L st h o h' mc ms) : AR E M d pc L (.int x :: st) h o h' mc ms := by
  intro p e R s m args below meth c H locs cells slots ls mcT msT C hR hS hl b1 b2 b3 b4
  exact lv_if_eq C.1 C.2.1 hd ht (fun z => kt z p e R s m args below meth c H locs cells slots ls mcT msT C hR hS hl b1 b2 b3 b4) (fun z => kf z p e R s m args below meth c H locs cells slots ls mcT msT C hR hS hl b1 b2 b3 b4)
theorem AR.eqt {off : Int} {tgt : Nat} {x : Int32} (hd : decode M.bytes pc = .ok (.ifCond .eq off, 3)) (ht : (pc : Int) + off = (tgt : Int)) (hc : x = 0) (kt : AR E M d tgt L st h o h' mc ms) : AR E M d pc L (.int x :: st) h o h' mc ms := AR.eq hd ht (fun _ => kt) (fun z => absurd hc (by exact z))
theorem AR.eqf {off : Int} {tgt : Nat} {x : Int32} (hd : decode M.bytes pc = .ok (.ifCond .eq off, 3)) (ht : (pc : Int) + off = (tgt : Int)) (hc : ¬ x = 0) (kf : AR E M d (pc + 3) L st h o h' mc ms) : AR E M d pc L (.int x :: st) h o h' mc ms := AR.eq hd ht (fun z => absurd z (by exact hc)) (fun _ => kf)
theorem AR.eq2 {off : Int} {tgt : Nat} {x y : Int32} (hd : decode M.bytes pc = .ok (.if_icmp .eq off, 3)) (ht : (pc : Int) + off = (tgt : Int)) (kt : x = y → AR E M d tgt L st h o h' mc ms) (kf : ¬ x = y → AR E M d (pc + 3) L st h o h' mc ms) : AR E M d pc L (.int y :: .int x :: st) h o h' mc ms := by
  intro p e R s m args below meth c H locs cells slots ls mcT msT C hR hS hl b1 b2 b3 b4
  exact lv_icmp_eq C.1 C.2.1 hd ht (fun z => kt z p e R s m args below meth c H locs cells slots ls mcT msT C hR hS hl b1 b2 b3 b4) (fun z => kf z p e R s m args below meth c H locs cells slots ls mcT msT C hR hS hl b1 b2 b3 b4)
theorem AR.eq2t {off : Int} {tgt : Nat} {x y : Int32} (hd : decode M.bytes pc = .ok (.if_icmp .eq off, 3)) (ht : (pc : Int) + off = (tgt : Int)) (hc : x = y) (kt : AR E M d tgt L st h o h' mc ms) : AR E M d pc L (.int y :: .int x :: st) h o h' mc ms := AR.eq2 hd ht (fun _ => kt) (fun z => absurd hc (by exact z))
theorem AR.eq2f {off : Int} {tgt : Nat} {x y : Int32} (hd : decode M.bytes pc = .ok (.if_icmp .eq off, 3)) (ht : (pc : Int) + off = (tgt : Int)) (hc : ¬ x = y) (kf : AR E M d (pc + 3) L st h o h' mc ms) : AR E M d pc L (.int y :: .int x :: st) h o h' mc ms := AR.eq2 hd ht (fun z => absurd z (by exact hc)) (fun _ => kf)
theorem AR.ne {off : Int} {tgt : Nat} {x : Int32} (hd : decode M.bytes pc = .ok (.ifCond .ne off, 3)) (ht : (pc : Int) + off = (tgt : Int)) (kt : ¬ x = 0 → AR E M d tgt L st h o h' mc ms) (kf : x = 0 → AR E M d (pc + 3) L st h o h' mc ms) : AR E M d pc L (.int x :: st) h o h' mc ms := by
  intro p e R s m args below meth c H locs cells slots ls mcT msT C hR hS hl b1 b2 b3 b4
  exact lv_if_ne C.1 C.2.1 hd ht (fun z => kt z p e R s m args below meth c H locs cells slots ls mcT msT C hR hS hl b1 b2 b3 b4) (fun z => kf z p e R s m args below meth c H locs cells slots ls mcT msT C hR hS hl b1 b2 b3 b4)
theorem AR.net {off : Int} {tgt : Nat} {x : Int32} (hd : decode M.bytes pc = .ok (.ifCond .ne off, 3)) (ht : (pc : Int) + off = (tgt : Int)) (hc : ¬ x = 0) (kt : AR E M d tgt L st h o h' mc ms) : AR E M d pc L (.int x :: st) h o h' mc ms := AR.ne hd ht (fun _ => kt) (fun z => absurd hc (by exact fun q => q z))
theorem AR.nef {off : Int} {tgt : Nat} {x : Int32} (hd : decode M.bytes pc = .ok (.ifCond .ne off, 3)) (ht : (pc : Int) + off = (tgt : Int)) (hc : x = 0) (kf : AR E M d (pc + 3) L st h o h' mc ms) : AR E M d pc L (.int x :: st) h o h' mc ms := AR.ne hd ht (fun z => absurd z (by exact fun q => q hc)) (fun _ => kf)
theorem AR.ne2 {off : Int} {tgt : Nat} {x y : Int32} (hd : decode M.bytes pc = .ok (.if_icmp .ne off, 3)) (ht : (pc : Int) + off = (tgt : Int)) (kt : ¬ x = y → AR E M d tgt L st h o h' mc ms) (kf : x = y → AR E M d (pc + 3) L st h o h' mc ms) : AR E M d pc L (.int y :: .int x :: st) h o h' mc ms := by
  intro p e R s m args below meth c H locs cells slots ls mcT msT C hR hS hl b1 b2 b3 b4
  exact lv_icmp_ne C.1 C.2.1 hd ht (fun z => kt z p e R s m args below meth c H locs cells slots ls mcT msT C hR hS hl b1 b2 b3 b4) (fun z => kf z p e R s m args below meth c H locs cells slots ls mcT msT C hR hS hl b1 b2 b3 b4)
theorem AR.ne2t {off : Int} {tgt : Nat} {x y : Int32} (hd : decode M.bytes pc = .ok (.if_icmp .ne off, 3)) (ht : (pc : Int) + off = (tgt : Int)) (hc : ¬ x = y) (kt : AR E M d tgt L st h o h' mc ms) : AR E M d pc L (.int y :: .int x :: st) h o h' mc ms := AR.ne2 hd ht (fun _ => kt) (fun z => absurd hc (by exact fun q => q z))
theorem AR.ne2f {off : Int} {tgt : Nat} {x y : Int32} (hd : decode M.bytes pc = .ok (.if_icmp .ne off, 3)) (ht : (pc : Int) + off = (tgt : Int)) (hc : x = y) (kf : AR E M d (pc + 3) L st h o h' mc ms) : AR E M d pc L (.int y :: .int x :: st) h o h' mc ms := AR.ne2 hd ht (fun z => absurd z (by exact fun q => q hc)) (fun _ => kf)
theorem AR.lt {off : Int} {tgt : Nat} {x : Int32} (hd : decode M.bytes pc = .ok (.ifCond .lt off, 3)) (ht : (pc : Int) + off = (tgt : Int)) (kt : x < 0 → AR E M d tgt L st h o h' mc ms) (kf : ¬ x < 0 → AR E M d (pc + 3) L st h o h' mc ms) : AR E M d pc L (.int x :: st) h o h' mc ms := by
  intro p e R s m args below meth c H locs cells slots ls mcT msT C hR hS hl b1 b2 b3 b4
  exact lv_if_lt C.1 C.2.1 hd ht (fun z => kt z p e R s m args below meth c H locs cells slots ls mcT msT C hR hS hl b1 b2 b3 b4) (fun z => kf z p e R s m args below meth c H locs cells slots ls mcT msT C hR hS hl b1 b2 b3 b4)
theorem AR.ltt {off : Int} {tgt : Nat} {x : Int32} (hd : decode M.bytes pc = .ok (.ifCond .lt off, 3)) (ht : (pc : Int) + off = (tgt : Int)) (hc : x < 0) (kt : AR E M d tgt L st h o h' mc ms) : AR E M d pc L (.int x :: st) h o h' mc ms := AR.lt hd ht (fun _ => kt) (fun z => absurd hc (by exact z))
theorem AR.ltf {off : Int} {tgt : Nat} {x : Int32} (hd : decode M.bytes pc = .ok (.ifCond .lt off, 3)) (ht : (pc : Int) + off = (tgt : Int)) (hc : ¬ x < 0) (kf : AR E M d (pc + 3) L st h o h' mc ms) : AR E M d pc L (.int x :: st) h o h' mc ms := AR.lt hd ht (fun z => absurd z (by exact hc)) (fun _ => kf)
theorem AR.lt2 {off : Int} {tgt : Nat} {x y : Int32} (hd : decode M.bytes pc = .ok (.if_icmp .lt off, 3)) (ht : (pc : Int) + off = (tgt : Int)) (kt : x < y → AR E M d tgt L st h o h' mc ms) (kf : ¬ x < y → AR E M d (pc + 3) L st h o h' mc ms) : AR E M d pc L (.int y :: .int x :: st) h o h' mc ms := by
  intro p e R s m args below meth c H locs cells slots ls mcT msT C hR hS hl b1 b2 b3 b4
  exact lv_icmp_lt C.1 C.2.1 hd ht (fun z => kt z p e R s m args below meth c H locs cells slots ls mcT msT C hR hS hl b1 b2 b3 b4) (fun z => kf z p e R s m args below meth c H locs cells slots ls mcT msT C hR hS hl b1 b2 b3 b4)
theorem AR.lt2t {off : Int} {tgt : Nat} {x y : Int32} (hd : decode M.bytes pc = .ok (.if_icmp .lt off, 3)) (ht : (pc : Int) + off = (tgt : Int)) (hc : x < y) (kt : AR E M d tgt L st h o h' mc ms) : AR E M d pc L (.int y :: .int x :: st) h o h' mc ms := AR.lt2 hd ht (fun _ => kt) (fun z => absurd hc (by exact z))
theorem AR.lt2f {off : Int} {tgt : Nat} {x y : Int32} (hd : decode M.bytes pc = .ok (.if_icmp .lt off, 3)) (ht : (pc : Int) + off = (tgt : Int)) (hc : ¬ x < y) (kf : AR E M d (pc + 3) L st h o h' mc ms) : AR E M d pc L (.int y :: .int x :: st) h o h' mc ms := AR.lt2 hd ht (fun z => absurd z (by exact hc)) (fun _ => kf)
theorem AR.ge {off : Int} {tgt : Nat} {x : Int32} (hd : decode M.bytes pc = .ok (.ifCond .ge off, 3)) (ht : (pc : Int) + off = (tgt : Int)) (kt : 0 ≤ x → AR E M d tgt L st h o h' mc ms) (kf : ¬ 0 ≤ x → AR E M d (pc + 3) L st h o h' mc ms) : AR E M d pc L (.int x :: st) h o h' mc ms := by
  intro p e R s m args below meth c H locs cells slots ls mcT msT C hR hS hl b1 b2 b3 b4
  exact lv_if_ge C.1 C.2.1 hd ht (fun z => kt z p e R s m args below meth c H locs cells slots ls mcT msT C hR hS hl b1 b2 b3 b4) (fun z => kf z p e R s m args below meth c H locs cells slots ls mcT msT C hR hS hl b1 b2 b3 b4)
theorem AR.get {off : Int} {tgt : Nat} {x : Int32} (hd : decode M.bytes pc = .ok (.ifCond .ge off, 3)) (ht : (pc : Int) + off = (tgt : Int)) (hc : 0 ≤ x) (kt : AR E M d tgt L st h o h' mc ms) : AR E M d pc L (.int x :: st) h o h' mc ms := AR.ge hd ht (fun _ => kt) (fun z => absurd hc (by exact z))
theorem AR.gef {off : Int} {tgt : Nat} {x : Int32} (hd : decode M.bytes pc = .ok (.ifCond .ge off, 3)) (ht : (pc : Int) + off = (tgt : Int)) (hc : ¬ 0 ≤ x) (kf : AR E M d (pc + 3) L st h o h' mc ms) : AR E M d pc L (.int x :: st) h o h' mc ms := AR.ge hd ht (fun z => absurd z (by exact hc)) (fun _ => kf)
theorem AR.ge2 {off : Int} {tgt : Nat} {x y : Int32} (hd : decode M.bytes pc = .ok (.if_icmp .ge off, 3)) (ht : (pc : Int) + off = (tgt : Int)) (kt : y ≤ x → AR E M d tgt L st h o h' mc ms) (kf : ¬ y ≤ x → AR E M d (pc + 3) L st h o h' mc ms) : AR E M d pc L (.int y :: .int x :: st) h o h' mc ms := by
  intro p e R s m args below meth c H locs cells slots ls mcT msT C hR hS hl b1 b2 b3 b4
  exact lv_icmp_ge C.1 C.2.1 hd ht (fun z => kt z p e R s m args below meth c H locs cells slots ls mcT msT C hR hS hl b1 b2 b3 b4) (fun z => kf z p e R s m args below meth c H locs cells slots ls mcT msT C hR hS hl b1 b2 b3 b4)
theorem AR.ge2t {off : Int} {tgt : Nat} {x y : Int32} (hd : decode M.bytes pc = .ok (.if_icmp .ge off, 3)) (ht : (pc : Int) + off = (tgt : Int)) (hc : y ≤ x) (kt : AR E M d tgt L st h o h' mc ms) : AR E M d pc L (.int y :: .int x :: st) h o h' mc ms := AR.ge2 hd ht (fun _ => kt) (fun z => absurd hc (by exact z))
theorem AR.ge2f {off : Int} {tgt : Nat} {x y : Int32} (hd : decode M.bytes pc = .ok (.if_icmp .ge off, 3)) (ht : (pc : Int) + off = (tgt : Int)) (hc : ¬ y ≤ x) (kf : AR E M d (pc + 3) L st h o h' mc ms) : AR E M d pc L (.int y :: .int x :: st) h o h' mc ms := AR.ge2 hd ht (fun z => absurd z (by exact hc)) (fun _ => kf)
theorem AR.gt {off : Int} {tgt : Nat} {x : Int32} (hd : decode M.bytes pc = .ok (.ifCond .gt off, 3)) (ht : (pc : Int) + off = (tgt : Int)) (kt : 0 < x → AR E M d tgt L st h o h' mc ms) (kf : ¬ 0 < x → AR E M d (pc + 3) L st h o h' mc ms) : AR E M d pc L (.int x :: st) h o h' mc ms := by
  intro p e R s m args below meth c H locs cells slots ls mcT msT C hR hS hl b1 b2 b3 b4
  exact lv_if_gt C.1 C.2.1 hd ht (fun z => kt z p e R s m args below meth c H locs cells slots ls mcT msT C hR hS hl b1 b2 b3 b4) (fun z => kf z p e R s m args below meth c H locs cells slots ls mcT msT C hR hS hl b1 b2 b3 b4)
theorem AR.gtt {off : Int} {tgt : Nat} {x : Int32} (hd : decode M.bytes pc = .ok (.ifCond .gt off, 3)) (ht : (pc : Int) + off = (tgt : Int)) (hc : 0 < x) (kt : AR E M d tgt L st h o h' mc ms) : AR E M d pc L (.int x :: st) h o h' mc ms := AR.gt hd ht (fun _ => kt) (fun z => absurd hc (by exact z))
theorem AR.gtf {off : Int} {tgt : Nat} {x : Int32} (hd : decode M.bytes pc = .ok (.ifCond .gt off, 3)) (ht : (pc : Int) + off = (tgt : Int)) (hc : ¬ 0 < x) (kf : AR E M d (pc + 3) L st h o h' mc ms) : AR E M d pc L (.int x :: st) h o h' mc ms := AR.gt hd ht (fun z => absurd z (by exact hc)) (fun _ => kf)
theorem AR.gt2 {off : Int} {tgt : Nat} {x y : Int32} (hd : decode M.bytes pc = .ok (.if_icmp .gt off, 3)) (ht : (pc : Int) + off = (tgt : Int)) (kt : y < x → AR E M d tgt L st h o h' mc ms) (kf : ¬ y < x → AR E M d (pc + 3) L st h o h' mc ms) : AR E M d pc L (.int y :: .int x :: st) h o h' mc ms := by
  intro p e R s m args below meth c H locs cells slots ls mcT msT C hR hS hl b1 b2 b3 b4
  exact lv_icmp_gt C.1 C.2.1 hd ht (fun z => kt z p e R s m args below meth c H locs cells slots ls mcT msT C hR hS hl b1 b2 b3 b4) (fun z => kf z p e R s m args below meth c H locs cells slots ls mcT msT C hR hS hl b1 b2 b3 b4)
theorem AR.gt2t {off : Int} {tgt : Nat} {x y : Int32} (hd : decode M.bytes pc = .ok (.if_icmp .gt off, 3)) (ht : (pc : Int) + off = (tgt : Int)) (hc : y < x) (kt : AR E M d tgt L st h o h' mc ms) : AR E M d pc L (.int y :: .int x :: st) h o h' mc ms := AR.gt2 hd ht (fun _ => kt) (fun z => absurd hc (by exact z))
theorem AR.gt2f {off : Int} {tgt : Nat} {x y : Int32} (hd : decode M.bytes pc = .ok (.if_icmp .gt off, 3)) (ht : (pc : Int) + off = (tgt : Int)) (hc : ¬ y < x) (kf : AR E M d (pc + 3) L st h o h' mc ms) : AR E M d pc L (.int y :: .int x :: st) h o h' mc ms := AR.gt2 hd ht (fun z => absurd z (by exact hc)) (fun _ => kf)
theorem AR.le {off : Int} {tgt : Nat} {x : Int32} (hd : decode M.bytes pc = .ok (.ifCond .le off, 3)) (ht : (pc : Int) + off = (tgt : Int)) (kt : x ≤ 0 → AR E M d tgt L st h o h' mc ms) (kf : ¬ x ≤ 0 → AR E M d (pc + 3) L st h o h' mc ms) : AR E M d pc L (.int x :: st) h o h' mc ms := by
  intro p e R s m args below meth c H locs cells slots ls mcT msT C hR hS hl b1 b2 b3 b4
  exact lv_if_le C.1 C.2.1 hd ht (fun z => kt z p e R s m args below meth c H locs cells slots ls mcT msT C hR hS hl b1 b2 b3 b4) (fun z => kf z p e R s m args below meth c H locs cells slots ls mcT msT C hR hS hl b1 b2 b3 b4)
theorem AR.let {off : Int} {tgt : Nat} {x : Int32} (hd : decode M.bytes pc = .ok (.ifCond .le off, 3)) (ht : (pc : Int) + off = (tgt : Int)) (hc : x ≤ 0) (kt : AR E M d tgt L st h o h' mc ms) : AR E M d pc L (.int x :: st) h o h' mc ms := AR.le hd ht (fun _ => kt) (fun z => absurd hc (by exact z))
theorem AR.lef {off : Int} {tgt : Nat} {x : Int32} (hd : decode M.bytes pc = .ok (.ifCond .le off, 3)) (ht : (pc : Int) + off = (tgt : Int)) (hc : ¬ x ≤ 0) (kf : AR E M d (pc + 3) L st h o h' mc ms) : AR E M d pc L (.int x :: st) h o h' mc ms := AR.le hd ht (fun z => absurd z (by exact hc)) (fun _ => kf)
theorem AR.le2 {off : Int} {tgt : Nat} {x y : Int32} (hd : decode M.bytes pc = .ok (.if_icmp .le off, 3)) (ht : (pc : Int) + off = (tgt : Int)) (kt : x ≤ y → AR E M d tgt L st h o h' mc ms) (kf : ¬ x ≤ y → AR E M d (pc + 3) L st h o h' mc ms) : AR E M d pc L (.int y :: .int x :: st) h o h' mc ms := by
  intro p e R s m args below meth c H locs cells slots ls mcT msT C hR hS hl b1 b2 b3 b4
  exact lv_icmp_le C.1 C.2.1 hd ht (fun z => kt z p e R s m args below meth c H locs cells slots ls mcT msT C hR hS hl b1 b2 b3 b4) (fun z => kf z p e R s m args below meth c H locs cells slots ls mcT msT C hR hS hl b1 b2 b3 b4)
theorem AR.le2t {off : Int} {tgt : Nat} {x y : Int32} (hd : decode M.bytes pc = .ok (.if_icmp .le off, 3)) (ht : (pc : Int) + off = (tgt : Int)) (hc : x ≤ y) (kt : AR E M d tgt L st h o h' mc ms) : AR E M d pc L (.int y :: .int x :: st) h o h' mc ms := AR.le2 hd ht (fun _ => kt) (fun z => absurd hc (by exact z))
theorem AR.le2f {off : Int} {tgt : Nat} {x y : Int32} (hd : decode M.bytes pc = .ok (.if_icmp .le off, 3)) (ht : (pc : Int) + off = (tgt : Int)) (hc : ¬ x ≤ y) (kf : AR E M d (pc + 3) L st h o h' mc ms) : AR E M d pc L (.int y :: .int x :: st) h o h' mc ms := AR.le2 hd ht (fun z => absurd z (by exact hc)) (fun _ => kf)
theorem AR.tsw {dflt lo hi : Int} {offs : Array Int} {len : Nat} {x : Int32} {off : Int} {tgt : Nat} (hd : decode M.bytes pc = .ok (.tableswitch dflt lo hi offs, len)) (j : Nat) (hx : x.toInt = lo + j) (hj : j < (hi + 1 - lo).toNat) (ho : offs[j]? = some off) (ht : (pc : Int) + off = (tgt : Int)) (k : AR E M d tgt L st h o h' mc ms) : AR E M d pc L (.int x :: st) h o h' mc ms := by
  intro p e R s m args below meth c H locs cells slots ls mcT msT C hR hS hl b1 b2 b3 b4
  have e9 : (x.toInt - lo).toNat = j := by omega
  exact lv_tableIn C.1 C.2.1 hd (by omega) (by omega) (by rw [e9]; exact ho) ht (k p e R s m args below meth c H locs cells slots ls mcT msT C hR hS hl b1 b2 b3 b4)
theorem AR.tswd {dflt lo hi : Int} {offs : Array Int} {len : Nat} {x : Int32} {tgt : Nat} (hd : decode M.bytes pc = .ok (.tableswitch dflt lo hi offs, len)) (hx : x.toInt < lo ∨ hi < x.toInt) (ht : (pc : Int) + dflt = (tgt : Int)) (k : AR E M d tgt L st h o h' mc ms) : AR E M d pc L (.int x :: st) h o h' mc ms := by
  intro p e R s m args below meth c H locs cells slots ls mcT msT C hR hS hl b1 b2 b3 b4
  exact lv_tableOut C.1 C.2.1 hd hx ht (k p e R s m args below meth c H locs cells slots ls mcT msT C hR hS hl b1 b2 b3 b4)
theorem AR.lsw {dflt : Int} {ps : Array (Int × Int)} {len : Nat} {x : Int32} {off : Int} {tgt : Nat} (hd : decode M.bytes pc = .ok (.lookupswitch dflt ps, len)) (hp : (ps.toList.zip (ps.toList.drop 1)).all (fun (a, next) => a.1 < next.1) = true) (ho : Op.lookupswitch.offset ps.toList dflt x.toInt = off) (ht : (pc : Int) + off = (tgt : Int)) (k : AR E M d tgt L st h o h' mc ms) : AR E M d pc L (.int x :: st) h o h' mc ms := by
  intro p e R s m args below meth c H locs cells slots ls mcT msT C hR hS hl b1 b2 b3 b4
  exact lv_lookup C.1 C.2.1 hd hp ho ht (k p e R s m args below meth c H locs cells slots ls mcT msT C hR hS hl b1 b2 b3 b4)
theorem AR.reti {v : Int32} (hd : decode M.bytes pc = .ok (.ireturn, 1)) (hr : M.ret = some .int) : AR E M d pc L [.int v] h (.inl (some (.int v))) h mc ms := by
  intro p e R s m args below meth c H locs cells slots ls mcT msT C hR hS hl b1 b2 b3 b4
  refine W.widen (k := mcT) (n := msT) (by omega) (by omega) ?_
  exact vx_ret (W.iret C.1 C.2.1 (C.2.2.2.1.trans hr) (fun t ht hW => ⟨some (.int v), rfl, rfl, by rw [ht]; exact ab_R.moved hW.alike hR, hS.F ht⟩) hS.2.2 hd C.2.2.2.2.2.2.1)
theorem AR.retz {v : Int32} (hd : decode M.bytes pc = .ok (.ireturn, 1)) (hr : M.ret = some .boolean) (hv : v = 0 ∨ v = 1) : AR E M d pc L [.int v] h (.inl (some (.int v))) h mc ms := by
  intro p e R s m args below meth c H locs cells slots ls mcT msT C hR hS hl b1 b2 b3 b4
  refine W.widen (k := mcT) (n := msT) (by omega) (by omega) ?_
  exact vx_ret (W.zret C.1 C.2.1 (C.2.2.2.1.trans hr) (by rcases hv with rfl | rfl <;> rfl) (fun t ht hW => ⟨some (.int v), rfl, rfl, by rw [ht]; exact ab_R.moved hW.alike hR, hS.F ht⟩) hS.2.2 hd C.2.2.2.2.2.2.1)
theorem AR.retl {v : Int64} (hd : decode M.bytes pc = .ok (.lreturn, 1)) (hr : M.ret = some .long) : AR E M d pc L [.long v] h (.inl (some (.long v))) h mc ms := by
  intro p e R s m args below meth c H locs cells slots ls mcT msT C hR hS hl b1 b2 b3 b4
  refine W.widen (k := mcT) (n := msT) (by omega) (by omega) ?_
  exact vx_ret (W.lret C.1 C.2.1 (C.2.2.2.1.trans hr) (fun t ht hW => ⟨some (.long v), rfl, rfl, by rw [ht]; exact ab_R.moved hW.alike hR, hS.F ht⟩) hS.2.2 hd C.2.2.2.2.2.2.1)
theorem AR.retd {v : UInt64} (hd : decode M.bytes pc = .ok (.dreturn, 1)) (hr : M.ret = some .double) : AR E M d pc L [.double v] h (.inl (some (.double v))) h mc ms := by
  intro p e R s m args below meth c H locs cells slots ls mcT msT C hR hS hl b1 b2 b3 b4
  refine W.widen (k := mcT) (n := msT) (by omega) (by omega) ?_
  exact vx_ret (W.dret C.1 C.2.1 (C.2.2.2.1.trans hr) (fun t ht hW => ⟨some (.double v), rfl, rfl, by rw [ht]; exact ab_R.moved hW.alike hR, hS.F ht⟩) hS.2.2 hd C.2.2.2.2.2.2.1)
theorem AR.retv (hd : decode M.bytes pc = .ok (.return_, 1)) (hr : M.ret = none) : AR E M d pc L [] h (.inl (none)) h mc ms := by
  intro p e R s m args below meth c H locs cells slots ls mcT msT C hR hS hl b1 b2 b3 b4
  refine W.widen (k := mcT) (n := msT) (by omega) (by omega) ?_
  exact vx_ret (W.vret C.1 C.2.1 (C.2.2.2.1.trans hr) (fun t ht hW => ⟨none, rfl, rfl, by rw [ht]; exact ab_R.moved hW.alike hR, hS.F ht⟩) hS.2.2 hd C.2.2.2.2.2.2.1)
end BR
/-- the locals with which a method begins -/
def ab_sl : List Value → AL
  | [] => []
  | .long z :: vs => some (.long z) :: none :: ab_sl vs
  | .double z :: vs => some (.double z) :: none :: ab_sl vs
  | v :: vs => some v :: ab_sl vs
def ab_ent (av : List Value) (n : Nat) : AL := ab_sl av ++ List.replicate (n - (ab_sl av).length) none
theorem ab_sl_len (E : AE) : ∀ av : List Value, (lg_sl (av.map (ab_v E))).length = (ab_sl av).length
  | [] => rfl
  | v :: vs => by
    have ih := ab_sl_len E vs
    unfold lg_sl at ih ⊢
    rw [List.map_cons, List.flatMap_cons, List.length_append, ih, ab_cat_v]
    cases v <;> simp [ab_sl, Value.category] <;> omega
theorem ab_sl_args (E : AE) : ∀ (av : List Value) (k i : Nat) (v : Value), (ab_sl av)[i]? = some (some v) → (k + i, ab_v E v) ∈ lv_args k (av.map (ab_v E))
  | [], k, i, v, h => by simp [ab_sl] at h
  | x :: vs, k, i, v, h => by
    rw [List.map_cons]
    unfold lv_args
    rw [ab_cat_v]
    have two : ∀ (y : Value) (r : AL), r = some y :: none :: ab_sl vs → y.category = 2 → r[i]? = some (some v) → (k + i, ab_v E v) ∈ (k, ab_v E y) :: lv_args (if y.category = 2 then k + 2 else k + 1) (vs.map (ab_v E)) := by
      intro y r hr hc hi
      subst hr
      rw [if_pos hc]
      match i, hi with
      | 0, hi => cases hi; exact List.mem_cons_self
      | 1, hi => cases hi
      | i + 2, hi =>
        have := ab_sl_args E vs (k + 2) i v hi
        rw [show k + (i + 2) = k + 2 + i by omega]
        exact List.mem_cons_of_mem _ this
    have one : ∀ (y : Value) (r : AL), r = some y :: ab_sl vs → ¬ y.category = 2 → r[i]? = some (some v) → (k + i, ab_v E v) ∈ (k, ab_v E y) :: lv_args (if y.category = 2 then k + 2 else k + 1) (vs.map (ab_v E)) := by
      intro y r hr hc hi
      subst hr
      rw [if_neg hc]
      match i, hi with
      | 0, hi => cases hi; exact List.mem_cons_self
      | i + 1, hi =>
        have := ab_sl_args E vs (k + 1) i v hi
        rw [show k + (i + 1) = k + 1 + i by omega]
        exact List.mem_cons_of_mem _ this
    cases x with
    | long z => exact two (.long z) _ rfl rfl h
    | double z => exact two (.double z) _ rfl rfl h
    | int z => exact one (.int z) _ rfl (fun q => by cases q) h
    | float z => exact one (.float z) _ rfl (fun q => by cases q) h
    | null => exact one .null _ rfl (fun q => by cases q) h
    | ref z => exact one (.ref z) _ rfl (fun q => by cases q) h
    | retAddr z => exact one (.retAddr z) _ rfl (fun q => by cases q) h
theorem ab_entry (E : AE) (av : List Value) {n : Nat} (hn : (ab_sl av).length ≤ n) : lv_has ((lg_sl (av.map (ab_v E)) ++ List.replicate (n - (lg_sl (av.map (ab_v E))).length) Slot.unset).toArray) n (ab_lvs E (ab_ent av n)) := by
  refine ab_has_of (lv_entry (av.map (ab_v E)) (by rw [ab_sl_len]; exact hn)) fun q hq => ?_
  obtain ⟨v, h1, h2⟩ := ab_lvs_mem.mp hq
  unfold ab_ent at h1
  by_cases hi : q.1 < (ab_sl av).length
  · rw [List.getElem?_append_left hi] at h1
    have := ab_sl_args E av 0 q.1 v h1
    rw [Nat.zero_add, ← h2] at this
    exact this
  · rw [List.getElem?_append_right (by omega), List.getElem?_replicate] at h1
    split at h1 <;> cases h1
/-! contracts -/
def ab_rm (d mc ms : Nat) : Room := { frames := d + 8, cells := mc, slots := ms, locals := 50 * d + 200 }
def ab_cond (M : AM) : Cond := match M.hh with
  | [] => .code M.y M.bytes M.maxL M.ret
  | q :: r => .codeWith M.y M.bytes M.maxL M.ret (q :: r)
abbrev ab_ws (M : AM) : List Cond := ab_cond M :: ab_W
def ab_Pc (E : AE) (av : List Value) (h : AH) : Array Value → State → Prop := va_Pc (av.map (ab_v E)) (fun U => ab_R E h U U.heap ∧ va_K E.D vwCl (ab_tys E) U ∧ ab_SF E U ∧ U.vm.findClass "[I" = some E.cI ∧ U.vm.findClass "[I" = some E.cI)
/-- the method M, called with av over the heap h, comes to its end o, h' -/
def CT (E : AE) (M : AM) (d : Nat) (av : List Value) (h : AH) (o : AR0) (h' : AH) (mc ms : Nat) : Prop := vx_Met E.l M.y (ab_ws M) (ab_rm d mc ms) (ab_Pc E av h) (ab_Qc E o h') (ab_Xc E o h') mc ms (ab_A E)
def ab_fit (M : AM) (av : List Value) : Bool := plainName M.y.cls && Nat.ble (ab_sl av).length M.maxL
set_option maxHeartbeats 1000000 in
theorem CT.of {E : AE} {M : AM} {d : Nat} {av : List Value} {h : AH} {o : AR0} {h' : AH} {mc ms : Nat} {L : AL} (hf : ab_fit M av = true) (hL : ab_ent av M.maxL = L) (k : AR E M d 0 L [] h o h' mc ms) : CT E M d av h o h' mc ms := by
  unfold ab_fit at hf
  rw [Bool.and_eq_true] at hf
  obtain ⟨hy, hn⟩ := hf
  have hn := Nat.le_of_ble_eq_true hn
  subst hL
  have body : ∀ (p : Program) (e : Env) (s : State) (m : MethodId) (args : Array Value) (below : List Frame) (meth : Method) (c : Code) (s₁ : State), BodyLoose p E.l M.y (headSpec (ab_ws M) (ab_rm d mc ms)) M.bytes M.maxL M.ret e s m args below meth c s₁ → c.maxLocals = M.maxL → c.exceptionTable.toList = tableOf M.hh → ab_Pc E av h args s →
      W p E.l e (headSpec (ab_ws M) (ab_rm d mc ms)).room s m args below meth c s.heap [] 0 0 (vx_MQ below (ab_Qc E o h') (ab_Xc E o h') args s mc ms (ab_A E)) (entryFrame m args M.maxL) := by
    intro p e s m args below meth c s₁ B hml ht hv
    obtain ⟨rfl, hR, hK, hF, hI, hJ⟩ := hv
    have hts := atoms_spec (ws := ab_ws M) B.pre
    have hown : s.vm.findClass M.own = some m.cls := findClass_of_methodNamed B.named
    have hnm : meth.name = M.y.name := (name_of_methodNamed B.named B.method).1
    rw [lg_entry_eq]
    exact k p e _ s m _ below meth c s.heap [] 0 0 _ mc ms ⟨B.exec, B.bytes, hml, B.returns, hown, fun w hw => hts w (List.mem_cons_of_mem _ hw), B.notSynchronized, hnm, ht, hK, hF, Nat.le_refl _, Nat.le_refl _, hI, hJ⟩ hR va_S.rf (ab_entry E av hn) (by omega) (by omega) (Nat.le_refl _) (Nat.le_refl _)
  unfold CT
  cases hh : M.hh with
  | nil =>
    refine vx_ofW (cc := M.bytes) (maxL := M.maxL) (ret := M.ret) (ws' := ab_W) hy (by unfold ab_ws ab_cond; rw [hh]) ?_
    intro p e s m args below meth c s₁ B hml ht hv
    refine body p e s m args below meth c s₁ B hml ?_ hv
    rw [hh]
    cases hx : c.exceptionTable.toList with
    | nil => rfl
    | cons x r => exact (ht x (by rw [hx]; exact List.mem_cons_self)).elim
  | cons q r =>
    refine vx_ofWH (cc := M.bytes) (maxL := M.maxL) (ret := M.ret) (hh := q :: r) (ws' := ab_W) hy (by unfold ab_ws ab_cond; rw [hh]) ?_
    intro p e s m args below meth c s₁ B hml hv
    refine body p e s m args below meth c s₁ B hml ?_ hv
    rw [hh]
    refine vx_table (x := M.y) B (bytes := M.bytes) (maxL' := M.maxL) (ret' := M.ret) (atoms_spec (ws := ab_ws M) B.pre _ ?_)
    unfold ab_ws ab_cond
    rw [hh]
    exact List.mem_cons_self
theorem ab_blind (E : AE) (av : List Value) (h : AH) : FrameBlind (ab_Pc E av h) := by
  intro a U g mk q
  obtain ⟨q0, q1, q2, q3, q4, q5⟩ := q
  have hal : U.vm.Alike (U.calling g mk a).vm := Vm.Alike.refl U.vm
  refine ⟨q0, ?_, ?_, ?_, q4, q5⟩
  · exact ab_R.moved (u := U) (U := U.calling g mk a) hal q1
  · exact va_K.moved (u := U) (U := U.calling g mk a) hal q2
  · exact ab_SF.moved (s := U) (U := U.calling g mk a) (H := U.heap) (locs := []) q3 (State.WarmedH.refl U) va_S.rf rfl
