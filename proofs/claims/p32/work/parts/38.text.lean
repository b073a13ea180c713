theorem off_dflt : ∀ (l : List (Int × Int)) (d k : Int), (∀ q ∈ l, q.1 ≠ k) → Op.lookupswitch.offset l d k = d
  | [], _, _, _ => rfl
  | (a, o) :: r, d, k, h => by
    rw [Op.lookupswitch.offset_cons, if_neg (h (a, o) (by simp))]
    exact off_dflt r d k fun q hq => h q (by simp [hq])
theorem AR.lswN {E : AE} {M : AM} {d pc : Nat} {L : AL} {st : List Value} {h : AH} {o : AR0} {h' : AH} {mc ms : Nat} {dflt : Int} {ps : Array (Int × Int)} {len : Nat} {x : Int32} {w : Nat} {off : Int} {tgt : Nat} (k : Nat) (hd : decode M.bytes pc = .ok (.lookupswitch dflt ps, len)) (hx : x = nI w) (hw : w = k) (hk : k < 2147483648) (hp : (ps.toList.zip (ps.toList.drop 1)).all (fun (a, next) => a.1 < next.1) = true) (ho : Op.lookupswitch.offset ps.toList dflt (k : Int) = off) (ht : (pc : Int) + off = (tgt : Int)) (kk : AR E M d tgt L st h o h' mc ms) : AR E M d pc L (.int x :: st) h o h' mc ms :=
  AR.lsw hd hp (by rw [hx, hw, nI_toInt hk]; exact ho) ht kk
theorem AR.lswdN {E : AE} {M : AM} {d pc : Nat} {L : AL} {st : List Value} {h : AH} {o : AR0} {h' : AH} {mc ms : Nat} {dflt : Int} {ps : Array (Int × Int)} {len : Nat} {x : Int32} {w : Nat} {tgt : Nat} (hd : decode M.bytes pc = .ok (.lookupswitch dflt ps, len)) (hx : x = nI w) (hw : w < 2147483648) (ha : ∀ q ∈ ps.toList, q.1 ≠ (w : Int)) (hp : (ps.toList.zip (ps.toList.drop 1)).all (fun (a, next) => a.1 < next.1) = true) (ht : (pc : Int) + dflt = (tgt : Int)) (kk : AR E M d tgt L st h o h' mc ms) : AR E M d pc L (.int x :: st) h o h' mc ms :=
  AR.lsw hd hp (by rw [hx, nI_toInt hw]; exact off_dflt _ _ _ ha) ht kk
theorem g_X1_length_0_2 : ab_oks M_X1_length [(0, .aload_n 0, 1, 0, 0, 0, .null), (1, .getfield 24, 3, 1, 2, 124, .null)] = true := by decide +kernel
theorem dc_X1_length_4 : decode (AM.bytes M_X1_length) 4 = .ok (.ireturn, 1) := by decide +kernel
set_option maxRecDepth 100000 in
set_option maxHeartbeats 4000000 in
theorem s_1length {E : AE} (d : Nat)  {o0 a0 p0 m0 u0 l0 : List AC} {tc tp : Nat → Int32} {tl_ tn trd tv tdg tf tla : Int32} : CT E M_X1_length d [.ref 8192] (hp o0 a0 (te_ tc tp tl_ tn trd tv tdg tf tla) p0 m0 u0 l0) (.inl (some (.int (tl_)))) (hp o0 a0 (te_ tc tp tl_ tn trd tv tdg tf tla) p0 m0 u0 l0) 0 0 := by
  refine CT.of (L := [some (.ref 8192)]) rfl rfl ?_
  refine AR.run g_X1_length_0_2 4 [some (.ref 8192)] [.int (tl_)] _ [] rfl trivial ?_
  exact AR.retI dc_X1_length_4 rfl rfl rfl
theorem g_X1_codeAt_0_1 : ab_oks M_X1_codeAt [(0, .iload_n 1, 1, 1, 0, 0, .null)] = true := by decide +kernel
theorem dc_X1_codeAt_1 : decode (AM.bytes M_X1_codeAt) 1 = .ok (.ifCond .lt 29, 3) := by decide +kernel
theorem g_X1_codeAt_4_3 : ab_oks M_X1_codeAt [(4, .iload_n 1, 1, 1, 0, 0, .null), (5, .aload_n 0, 1, 0, 0, 0, .null), (6, .getfield 24, 3, 1, 2, 124, .null)] = true := by decide +kernel
theorem dc_X1_codeAt_9 : decode (AM.bytes M_X1_codeAt) 9 = .ok (.if_icmp .ge 21, 3) := by decide +kernel
theorem g_X1_codeAt_12_4 : ab_oks M_X1_codeAt [(12, .iload_n 1, 1, 1, 0, 0, .null), (13, .aload_n 0, 1, 0, 0, 0, .null), (14, .getfield 9, 3, 1, 0, 122, .null), (17, .arraylength, 1, 0, 0, 0, .null)] = true := by decide +kernel
theorem dc_X1_codeAt_18 : decode (AM.bytes M_X1_codeAt) 18 = .ok (.if_icmp .ge 12, 3) := by decide +kernel
theorem g_X1_codeAt_21_3 : ab_oks M_X1_codeAt [(21, .aload_n 0, 1, 0, 0, 0, .null), (22, .getfield 9, 3, 1, 0, 122, .null), (25, .iload_n 1, 1, 1, 0, 0, .null)] = true := by decide +kernel
theorem ok_X1_codeAt_26 : ab_ok M_X1_codeAt (26, .iaload, 1, 0, 0, 0, .null) = true := by decide +kernel
theorem g_X1_codeAt_27_1 : ab_oks M_X1_codeAt [(27, .goto 4, 3, 31, 0, 0, .null)] = true := by decide +kernel
theorem dc_X1_codeAt_31 : decode (AM.bytes M_X1_codeAt) 31 = .ok (.ireturn, 1) := by decide +kernel
set_option maxRecDepth 100000 in
set_option maxHeartbeats 4000000 in
theorem s_1codeAt {E : AE} (d : Nat) (k : Nat) {q : Nat}  {o0 a0 p0 m0 u0 l0 : List AC} {tc tp : Nat → Int32} {tl_ tn trd tv tdg tf tla : Int32} (hln : tl_ = nI q) (hq : q ≤ 60) (hk : k < q) : CT E M_X1_codeAt d [.ref 8192, .int (nI (k))] (hp o0 a0 (te_ tc tp tl_ tn trd tv tdg tf tla) p0 m0 u0 l0) (.inl (some (.int (tc k)))) (hp o0 a0 (te_ tc tp tl_ tn trd tv tdg tf tla) p0 m0 u0 l0) 0 0 := by
  refine CT.of (L := [some (.ref 8192), some (.int (nI (k)))]) rfl rfl ?_
  refine AR.run g_X1_codeAt_0_1 1 [some (.ref 8192), some (.int (nI (k)))] [.int (nI (k))] _ [] rfl trivial ?_
  refine AR.ltN (tgt := 30) (a := k) dc_X1_codeAt_1 (by decide) (by first | rfl | (simp only [nI_add, pk_mul]; first | done | rfl)) (by omega) (fun c1_1 => absurd c1_1 (fun q => q)) (fun c1_1 => ?_)
  refine AR.run g_X1_codeAt_4_3 9 [some (.ref 8192), some (.int (nI (k)))] [.int (tl_), .int (nI (k))] _ [] rfl trivial ?_
  refine AR.top hln ?_
  refine AR.ge2N (tgt := 30) (a := k) (b := q) dc_X1_codeAt_9 (by decide) (by first | rfl | (simp only [nI_add, pk_mul]; first | done | rfl)) (by first | rfl | (simp only [nI_add, pk_mul]; first | done | rfl)) (by omega) (by omega) (fun c9_2 => absurd c9_2 (by omega)) (fun c9_2 => ?_)
  refine AR.run g_X1_codeAt_12_4 18 [some (.ref 8192), some (.int (nI (k)))] [.int (nI (60)), .int (nI (k))] _ [] rfl trivial ?_
  refine AR.ge2N (tgt := 30) (a := k) (b := 60) dc_X1_codeAt_18 (by decide) (by first | rfl | (simp only [nI_add, pk_mul]; first | done | rfl)) (by first | rfl | (simp only [nI_add, pk_mul]; first | done | rfl)) (by omega) (by omega) (fun c18_3 => absurd c18_3 (by omega)) (fun c18_3 => ?_)
  refine AR.run g_X1_codeAt_21_3 26 [some (.ref 8192), some (.int (nI (k)))] [.int (nI (k)), .ref 8193] _ [] rfl trivial ?_
  refine AR.ald (n := 0) (e := k) ok_X1_codeAt_26 (by first | rfl | (simp only [nI_add, pk_mul]; first | done | rfl)) rfl (by omega) (by first | decide | omega) ?_
  refine AR.run g_X1_codeAt_27_1 31 [some (.ref 8192), some (.int (nI (k)))] [.int (tc k)] _ [] rfl trivial ?_
  exact AR.retI dc_X1_codeAt_31 rfl rfl rfl
def F_1add (q : Nat) : Int32 := if 60 ≤ q then (nI (q)) else ((nI (q)) + (nI (1)))
def F_1add_tc (c : Int32) (q : Nat) (tc : Nat → Int32) : Nat → Int32 := if 60 ≤ q then tc else (upd tc q c)
def F_1add_tl_ (q : Nat) (tl_ : Int32) : Int32 := if 60 ≤ q then tl_ else ((nI (q)) + (nI (1)))
theorem g_X1_add_0_2 : ab_oks M_X1_add [(0, .aload_n 0, 1, 0, 0, 0, .null), (1, .getfield 24, 3, 1, 2, 124, .null)] = true := by decide +kernel
theorem dc_X1_add_4 : decode (AM.bytes M_X1_add) 4 = .ok (.ifCond .lt 35, 3) := by decide +kernel
theorem g_X1_add_7_2 : ab_oks M_X1_add [(7, .aload_n 0, 1, 0, 0, 0, .null), (8, .getfield 24, 3, 1, 2, 124, .null)] = true := by decide +kernel
theorem g_X1_add_11_3 : ab_oks M_X1_add [(11, .aload_n 0, 1, 0, 0, 0, .null), (12, .getfield 9, 3, 1, 0, 122, .null), (15, .arraylength, 1, 0, 0, 0, .null)] = true := by decide +kernel
theorem dc_X1_add_16 : decode (AM.bytes M_X1_add) 16 = .ok (.if_icmp .ge 23, 3) := by decide +kernel
theorem g_X1_add_39_2 : ab_oks M_X1_add [(39, .aload_n 0, 1, 0, 0, 0, .null), (40, .getfield 24, 3, 1, 2, 124, .null)] = true := by decide +kernel
theorem dc_X1_add_43 : decode (AM.bytes M_X1_add) 43 = .ok (.ireturn, 1) := by decide +kernel
theorem g_X1_add_19_4 : ab_oks M_X1_add [(19, .aload_n 0, 1, 0, 0, 0, .null), (20, .getfield 9, 3, 1, 0, 122, .null), (23, .aload_n 0, 1, 0, 0, 0, .null), (24, .getfield 24, 3, 1, 2, 124, .null)] = true := by decide +kernel
theorem g_X1_add_27_1 : ab_oks M_X1_add [(27, .iload_n 1, 1, 1, 0, 0, .null)] = true := by decide +kernel
theorem ok_X1_add_28 : ab_ok M_X1_add (28, .iastore, 1, 0, 0, 0, .null) = true := by decide +kernel
theorem g_X1_add_29_3 : ab_oks M_X1_add [(29, .aload_n 0, 1, 0, 0, 0, .null), (30, .dup, 1, 0, 0, 0, .null), (31, .getfield 24, 3, 1, 2, 124, .null)] = true := by decide +kernel
theorem g_X1_add_34_5 : ab_oks M_X1_add [(34, .iconst 1, 1, 0, 0, 0, .int (nI (1))), (35, .iadd, 1, 0, 0, 0, .null), (36, .putfield 24, 3, 1, 2, 124, .null), (39, .aload_n 0, 1, 0, 0, 0, .null), (40, .getfield 24, 3, 1, 2, 124, .null)] = true := by decide +kernel
set_option maxRecDepth 100000 in
set_option maxHeartbeats 4000000 in
theorem s_1add {E : AE} (d : Nat) (c : Int32) {q : Nat}  {o0 a0 p0 m0 u0 l0 : List AC} {tc tp : Nat → Int32} {tl_ tn trd tv tdg tf tla : Int32} (hln : tl_ = nI q) (hq : q ≤ 60) (hq6 : q < 60) : CT E M_X1_add d [.ref 8192, .int (c)] (hp o0 a0 (te_ tc tp tl_ tn trd tv tdg tf tla) p0 m0 u0 l0) (.inl (some (.int (F_1add q)))) (hp o0 a0 (te_ (F_1add_tc c q tc) tp (F_1add_tl_ q tl_) tn trd tv tdg tf tla) p0 m0 u0 l0) 0 0 := by
  refine CT.of (L := [some (.ref 8192), some (.int (c))]) rfl rfl ?_
  refine AR.run g_X1_add_0_2 4 [some (.ref 8192), some (.int (c))] [.int (tl_)] _ [] rfl trivial ?_
  refine AR.top hln ?_
  refine AR.ltN (tgt := 39) (a := q) dc_X1_add_4 (by decide) (by first | rfl | (simp only [nI_add, pk_mul]; first | done | rfl)) (by omega) (fun c4_1 => absurd c4_1 (fun q => q)) (fun c4_1 => ?_)
  refine AR.run g_X1_add_7_2 11 [some (.ref 8192), some (.int (c))] [.int (tl_)] _ [] rfl trivial ?_
  refine AR.top hln ?_
  refine AR.run g_X1_add_11_3 16 [some (.ref 8192), some (.int (c))] [.int (nI (60)), .int (nI (q))] _ [] rfl trivial ?_
  refine AR.ge2N (tgt := 39) (a := q) (b := 60) dc_X1_add_16 (by decide) (by first | rfl | (simp only [nI_add, pk_mul]; first | done | rfl)) (by first | rfl | (simp only [nI_add, pk_mul]; first | done | rfl)) (by omega) (by omega) (fun c16_2 => ?_) (fun c16_2 => ?_)
  · refine AR.run g_X1_add_39_2 43 [some (.ref 8192), some (.int (c))] [.int (tl_)] _ [] rfl trivial ?_
    refine AR.top hln ?_
    have e3_0 : F_1add q = (nI (q)) := by rw [F_1add, if_pos (show 60 ≤ q from by omega)]
    have e3_1 : F_1add_tc c q tc = tc := by rw [F_1add_tc, if_pos (show 60 ≤ q from by omega)]
    have e3_2 : F_1add_tl_ q tl_ = tl_ := by rw [F_1add_tl_, if_pos (show 60 ≤ q from by omega)]
    exact AR.retI dc_X1_add_43 rfl e3_0.symm (by rw [e3_1, e3_2])
  · refine AR.run g_X1_add_19_4 27 [some (.ref 8192), some (.int (c))] [.int (tl_), .ref 8193] _ [] rfl trivial ?_
    refine AR.top hln ?_
    refine AR.run g_X1_add_27_1 28 [some (.ref 8192), some (.int (c))] [.int (c), .int (nI (q)), .ref 8193] _ [] rfl trivial ?_
    refine AR.ast (n := 0) (e := q) (h1 := (hp o0 a0 (te_ (upd tc q c) tp tl_ tn trd tv tdg tf tla) p0 m0 u0 l0)) ok_X1_add_28 (by first | rfl | (simp only [nI_add, pk_mul]; first | done | rfl)) rfl rfl (by omega) (by decide) rfl ?_
    refine AR.run g_X1_add_29_3 34 [some (.ref 8192), some (.int (c))] [.int (tl_), .ref 8192] _ [] rfl trivial ?_
    refine AR.top hln ?_
    refine AR.run g_X1_add_34_5 43 [some (.ref 8192), some (.int (c))] [.int ((nI (q)) + (nI (1)))] (hp o0 a0 (te_ (upd tc q c) tp ((nI (q)) + (nI (1))) tn trd tv tdg tf tla) p0 m0 u0 l0) [] rfl trivial ?_
    have e4_0 : F_1add q = ((nI (q)) + (nI (1))) := by rw [F_1add, if_neg (show ¬ (60 ≤ q) from by omega)]
    have e4_1 : F_1add_tc c q tc = (upd tc q c) := by rw [F_1add_tc, if_neg (show ¬ (60 ≤ q) from by omega)]
    have e4_2 : F_1add_tl_ q tl_ = ((nI (q)) + (nI (1))) := by rw [F_1add_tl_, if_neg (show ¬ (60 ≤ q) from by omega)]
    exact AR.retI dc_X1_add_43 rfl e4_0.symm (by rw [e4_1, e4_2])
def F_1empty (tl_ : Int32) : Int32 := tl_
def F_1empty_tl_ : Int32 := (nI (0))
theorem g_X1_empty_0_7 : ab_oks M_X1_empty [(0, .aload_n 0, 1, 0, 0, 0, .null), (1, .getfield 24, 3, 1, 2, 124, .null), (4, .istore_n 1, 1, 1, 0, 0, .null), (5, .aload_n 0, 1, 0, 0, 0, .null), (6, .iconst 0, 1, 0, 0, 0, .int (nI (0))), (7, .putfield 24, 3, 1, 2, 124, .null), (10, .iload_n 1, 1, 1, 0, 0, .null)] = true := by decide +kernel
theorem dc_X1_empty_11 : decode (AM.bytes M_X1_empty) 11 = .ok (.ireturn, 1) := by decide +kernel
set_option maxRecDepth 100000 in
set_option maxHeartbeats 4000000 in
theorem s_1empty {E : AE} (d : Nat)  {o0 a0 p0 m0 u0 l0 : List AC} {tc tp : Nat → Int32} {tl_ tn trd tv tdg tf tla : Int32} : CT E M_X1_empty d [.ref 8192] (hp o0 a0 (te_ tc tp tl_ tn trd tv tdg tf tla) p0 m0 u0 l0) (.inl (some (.int (F_1empty tl_)))) (hp o0 a0 (te_ tc tp F_1empty_tl_ tn trd tv tdg tf tla) p0 m0 u0 l0) 0 0 := by
  refine CT.of (L := [some (.ref 8192), none]) rfl rfl ?_
  refine AR.run g_X1_empty_0_7 11 [some (.ref 8192), some (.int (tl_))] [.int (tl_)] (hp o0 a0 (te_ tc tp (nI (0)) tn trd tv tdg tf tla) p0 m0 u0 l0) [] rfl trivial ?_
  have e1_0 : F_1empty tl_ = tl_ := by rw [F_1empty]
  have e1_1 : F_1empty_tl_ = (nI (0)) := by rw [F_1empty_tl_]
  exact AR.retI dc_X1_empty_11 rfl e1_0.symm (by rw [e1_1])
def F_1begin_trd (w : Int32) : Int32 := w
def F_1begin_tv : Int32 := (nI (0))
def F_1begin_tdg : Int32 := (nI (0))
theorem g_X1_begin_0_9 : ab_oks M_X1_begin [(0, .aload_n 0, 1, 0, 0, 0, .null), (1, .iload_n 1, 1, 1, 0, 0, .null), (2, .putfield 31, 3, 1, 4, 126, .null), (5, .aload_n 0, 1, 0, 0, 0, .null), (6, .iconst 0, 1, 0, 0, 0, .int (nI (0))), (7, .putfield 34, 3, 1, 5, 127, .null), (10, .aload_n 0, 1, 0, 0, 0, .null), (11, .iconst 0, 1, 0, 0, 0, .int (nI (0))), (12, .putfield 37, 3, 1, 6, 128, .null)] = true := by decide +kernel
theorem dc_X1_begin_15 : decode (AM.bytes M_X1_begin) 15 = .ok (.return_, 1) := by decide +kernel
set_option maxRecDepth 100000 in
set_option maxHeartbeats 4000000 in
theorem s_1begin {E : AE} (d : Nat) (w : Int32)  {o0 a0 p0 m0 u0 l0 : List AC} {tc tp : Nat → Int32} {tl_ tn trd tv tdg tf tla : Int32} : CT E M_X1_begin d [.ref 8192, .int (w)] (hp o0 a0 (te_ tc tp tl_ tn trd tv tdg tf tla) p0 m0 u0 l0) (.inl none) (hp o0 a0 (te_ tc tp tl_ tn (F_1begin_trd w) F_1begin_tv F_1begin_tdg tf tla) p0 m0 u0 l0) 0 0 := by
  refine CT.of (L := [some (.ref 8192), some (.int (w))]) rfl rfl ?_
  refine AR.run g_X1_begin_0_9 15 [some (.ref 8192), some (.int (w))] [] (hp o0 a0 (te_ tc tp tl_ tn w (nI (0)) (nI (0)) tf tla) p0 m0 u0 l0) [] rfl trivial ?_
  have e1_0 : F_1begin_trd w = w := by rw [F_1begin_trd]
  have e1_1 : F_1begin_tv = (nI (0)) := by rw [F_1begin_tv]
  have e1_2 : F_1begin_tdg = (nI (0)) := by rw [F_1begin_tdg]
  exact AR.retV dc_X1_begin_15 rfl (by rw [e1_0, e1_1, e1_2])
def F_1isComplete (trd : Int32) (tdg : Int32) : Int32 := if trd = (nI (2)) then if tdg = (nI (4)) then (nI (1)) else (nI (0)) else (nI (0))
theorem F_1isComplete_01 (trd : Int32) (tdg : Int32) : F_1isComplete trd tdg = nI 0 ∨ F_1isComplete trd tdg = nI 1 := by
  unfold F_1isComplete
  (repeat' split) <;> first | exact Or.inl rfl | exact Or.inr rfl | exact wi01 _ _ _
theorem g_X1_isComplete_0_3 : ab_oks M_X1_isComplete [(0, .aload_n 0, 1, 0, 0, 0, .null), (1, .getfield 31, 3, 1, 4, 126, .null), (4, .iconst 2, 1, 0, 0, 0, .int (nI (2)))] = true := by decide +kernel
theorem dc_X1_isComplete_5 : decode (AM.bytes M_X1_isComplete) 5 = .ok (.if_icmp .ne 15, 3) := by decide +kernel
theorem g_X1_isComplete_20_1 : ab_oks M_X1_isComplete [(20, .iconst 0, 1, 0, 0, 0, .int (nI (0)))] = true := by decide +kernel
theorem dc_X1_isComplete_21 : decode (AM.bytes M_X1_isComplete) 21 = .ok (.ireturn, 1) := by decide +kernel
theorem g_X1_isComplete_8_3 : ab_oks M_X1_isComplete [(8, .aload_n 0, 1, 0, 0, 0, .null), (9, .getfield 37, 3, 1, 6, 128, .null), (12, .iconst 4, 1, 0, 0, 0, .int (nI (4)))] = true := by decide +kernel
theorem dc_X1_isComplete_13 : decode (AM.bytes M_X1_isComplete) 13 = .ok (.if_icmp .ne 7, 3) := by decide +kernel
theorem g_X1_isComplete_16_2 : ab_oks M_X1_isComplete [(16, .iconst 1, 1, 0, 0, 0, .int (nI (1))), (17, .goto 4, 3, 21, 0, 0, .null)] = true := by decide +kernel
set_option maxRecDepth 100000 in
set_option maxHeartbeats 4000000 in
theorem s_1isComplete {E : AE} (d : Nat)  {o0 a0 p0 m0 u0 l0 : List AC} {tc tp : Nat → Int32} {tl_ tn trd tv tdg tf tla : Int32} : CT E M_X1_isComplete d [.ref 8192] (hp o0 a0 (te_ tc tp tl_ tn trd tv tdg tf tla) p0 m0 u0 l0) (.inl (some (.int (F_1isComplete trd tdg)))) (hp o0 a0 (te_ tc tp tl_ tn trd tv tdg tf tla) p0 m0 u0 l0) 0 0 := by
  refine CT.of (L := [some (.ref 8192)]) rfl rfl ?_
  refine AR.run g_X1_isComplete_0_3 5 [some (.ref 8192)] [.int (nI (2)), .int (trd)] _ [] rfl trivial ?_
  refine AR.ne2 (tgt := 20) dc_X1_isComplete_5 (by decide) (fun c5_1 => ?_) (fun c5_1 => ?_)
  · refine AR.run g_X1_isComplete_20_1 21 [some (.ref 8192)] [.int (nI (0))] _ [] rfl trivial ?_
    have e2_0 : F_1isComplete trd tdg = (nI (0)) := by rw [F_1isComplete, if_neg c5_1]
    exact AR.retZ dc_X1_isComplete_21 rfl (Or.inl rfl) e2_0.symm rfl
  · refine AR.run g_X1_isComplete_8_3 13 [some (.ref 8192)] [.int (nI (4)), .int (tdg)] _ [] rfl trivial ?_
    refine AR.ne2 (tgt := 20) dc_X1_isComplete_13 (by decide) (fun c13_3 => ?_) (fun c13_3 => ?_)
    · refine AR.run g_X1_isComplete_20_1 21 [some (.ref 8192)] [.int (nI (0))] _ [] rfl trivial ?_
      have e4_0 : F_1isComplete trd tdg = (nI (0)) := by rw [F_1isComplete, if_pos c5_1, if_neg c13_3]
      exact AR.retZ dc_X1_isComplete_21 rfl (Or.inl rfl) e4_0.symm rfl
    · refine AR.run g_X1_isComplete_16_2 21 [some (.ref 8192)] [.int (nI (1))] _ [] rfl trivial ?_
      have e5_0 : F_1isComplete trd tdg = (nI (1)) := by rw [F_1isComplete, if_pos c5_1, if_pos c13_3]
      exact AR.retZ dc_X1_isComplete_21 rfl (Or.inr rfl) e5_0.symm rfl
theorem g_X1_partCount_0_2 : ab_oks M_X1_partCount [(0, .aload_n 0, 1, 0, 0, 0, .null), (1, .getfield 28, 3, 1, 3, 125, .null)] = true := by decide +kernel
theorem dc_X1_partCount_4 : decode (AM.bytes M_X1_partCount) 4 = .ok (.ireturn, 1) := by decide +kernel
set_option maxRecDepth 100000 in
set_option maxHeartbeats 4000000 in
theorem s_1partCount {E : AE} (d : Nat)  {o0 a0 p0 m0 u0 l0 : List AC} {tc tp : Nat → Int32} {tl_ tn trd tv tdg tf tla : Int32} : CT E M_X1_partCount d [.ref 8192] (hp o0 a0 (te_ tc tp tl_ tn trd tv tdg tf tla) p0 m0 u0 l0) (.inl (some (.int (tn)))) (hp o0 a0 (te_ tc tp tl_ tn trd tv tdg tf tla) p0 m0 u0 l0) 0 0 := by
  refine CT.of (L := [some (.ref 8192)]) rfl rfl ?_
  refine AR.run g_X1_partCount_0_2 4 [some (.ref 8192)] [.int (tn)] _ [] rfl trivial ?_
  exact AR.retI dc_X1_partCount_4 rfl rfl rfl
theorem g_X1_partFact_0_4 : ab_oks M_X1_partFact [(0, .aload_n 0, 1, 0, 0, 0, .null), (1, .getfield 20, 3, 1, 1, 123, .null), (4, .iload_n 1, 1, 1, 0, 0, .null), (5, .iload_n 2, 1, 2, 0, 0, .null)] = true := by decide +kernel
theorem lk_1_58 : ab_lkV "LeafCradles$BarText" 58 M_X3_at 2 [754, 269, 270, 31, 271] = true := by decide +kernel
theorem dc_X1_partFact_6 : decode (AM.bytes M_X1_partFact) 6 = .ok (.invokevirtual 58, 3) := by decide +kernel
theorem dc_X1_partFact_9 : decode (AM.bytes M_X1_partFact) 9 = .ok (.ireturn, 1) := by decide +kernel
set_option maxRecDepth 100000 in
set_option maxHeartbeats 4000000 in
theorem s_1partFact {E : AE} (d : Nat) (r : Nat) (c : Nat)  {o0 a0 p0 m0 u0 l0 : List AC} {tc tp : Nat → Int32} {tl_ tn trd tv tdg tf tla : Int32} (hr : r < 10) (hc : c < 3) : CT E M_X1_partFact (d + 1) [.ref 8192, .int (nI (r)), .int (nI (c))] (hp o0 a0 (te_ tc tp tl_ tn trd tv tdg tf tla) p0 m0 u0 l0) (.inl (some (.int (tp (r * 3 + c))))) (hp o0 a0 (te_ tc tp tl_ tn trd tv tdg tf tla) p0 m0 u0 l0) 0 0 := by
  refine CT.of (L := [some (.ref 8192), some (.int (nI (r))), some (.int (nI (c)))]) rfl rfl ?_
  refine AR.run g_X1_partFact_0_4 6 [some (.ref 8192), some (.int (nI (r))), some (.int (nI (c)))] [.int (nI (c)), .int (nI (r)), .ref 8194] _ [] rfl trivial ?_
  refine AR.callV1 (8194) [.int (nI (r)), .int (nI (c))] [] lk_1_58 dc_X1_partFact_6 rfl rfl (s_3atP _ r c (by omega) (by omega)) (by first | rfl | (simp only [nI_add, pk_mul]; first | done | rfl)) rfl ?_
  exact AR.retI dc_X1_partFact_9 rfl rfl rfl
def B_1greatestLeaf_4 (tp : Nat → Int32) (j4 : Nat) (x4_1 : Int32) : (Int32) := (if x4_1 < (tp (j4 * 3 + 1)) then (tp (j4 * 3 + 1)) else x4_1)
def L_1greatestLeaf_4 (tp : Nat → Int32) : Nat → (Int32)
  | 0 => -1
  | j + 1 => B_1greatestLeaf_4 tp j (L_1greatestLeaf_4 tp  j)
theorem g_X1_greatestLeaf_0_4 : ab_oks M_X1_greatestLeaf [(0, .iconst (-1), 1, 0, 0, 0, .int (-1)), (1, .istore_n 1, 1, 1, 0, 0, .null), (2, .iconst 0, 1, 0, 0, 0, .int (nI (0))), (3, .istore_n 2, 1, 2, 0, 0, .null)] = true := by decide +kernel
theorem g_X1_greatestLeaf_4_3 : ab_oks M_X1_greatestLeaf [(4, .iload_n 2, 1, 2, 0, 0, .null), (5, .aload_n 0, 1, 0, 0, 0, .null), (6, .getfield 28, 3, 1, 3, 125, .null)] = true := by decide +kernel
theorem dc_X1_greatestLeaf_9 : decode (AM.bytes M_X1_greatestLeaf) 9 = .ok (.if_icmp .ge 23, 3) := by decide +kernel
theorem g_X1_greatestLeaf_12_5 : ab_oks M_X1_greatestLeaf [(12, .iload_n 1, 1, 1, 0, 0, .null), (13, .aload_n 0, 1, 0, 0, 0, .null), (14, .getfield 20, 3, 1, 1, 123, .null), (17, .iload_n 2, 1, 2, 0, 0, .null), (18, .iconst 1, 1, 0, 0, 0, .int (nI (1)))] = true := by decide +kernel
theorem dc_X1_greatestLeaf_19 : decode (AM.bytes M_X1_greatestLeaf) 19 = .ok (.invokevirtual 58, 3) := by decide +kernel
theorem g_X1_greatestLeaf_22_4 : ab_oks M_X1_greatestLeaf [(22, .invokestatic 62, 3, 1, 0, 755, .null), (25, .istore_n 1, 1, 1, 0, 0, .null), (26, .iinc 2 1, 3, 2, 0, 0, .int (nI (1))), (29, .goto (-25), 3, 4, 0, 0, .null)] = true := by decide +kernel
theorem g_X1_greatestLeaf_32_1 : ab_oks M_X1_greatestLeaf [(32, .iload_n 1, 1, 1, 0, 0, .null)] = true := by decide +kernel
theorem dc_X1_greatestLeaf_33 : decode (AM.bytes M_X1_greatestLeaf) 33 = .ok (.ireturn, 1) := by decide +kernel
set_option maxRecDepth 100000 in
set_option maxHeartbeats 4000000 in
theorem s_1greatestLeaf {E : AE} (d : Nat) {p : Nat}  {o0 a0 p0 m0 u0 l0 : List AC} {tc tp : Nat → Int32} {tl_ tn trd tv tdg tf tla : Int32} (htn : tn = nI p) (hp10 : p ≤ 10) : CT E M_X1_greatestLeaf (d + 1) [.ref 8192] (hp o0 a0 (te_ tc tp tl_ tn trd tv tdg tf tla) p0 m0 u0 l0) (.inl (some (.int (L_1greatestLeaf_4 tp p)))) (hp o0 a0 (te_ tc tp tl_ tn trd tv tdg tf tla) p0 m0 u0 l0) 0 0 := by
  refine CT.of (L := [some (.ref 8192), none, none]) rfl rfl ?_
  refine AR.run g_X1_greatestLeaf_0_4 4 [some (.ref 8192), some (.int (-1)), some (.int (nI (0)))] [] _ [] rfl trivial ?_
  refine AR.cast (L' := [some (.ref 8192), some (.int (L_1greatestLeaf_4 tp 0)), some (.int (nI (0)))]) (by first | rfl | (rw [L_1greatestLeaf_4])) rfl rfl (AR.loopN p (fun j4 => [some (.ref 8192), some (.int (L_1greatestLeaf_4 tp j4)), some (.int (nI (j4)))]) (fun j4 => (hp o0 a0 (te_ tc tp tl_ tn trd tv tdg tf tla) p0 m0 u0 l0)) (fun j4 => True) (fun j4 hj4 hI4 ih4 => ?_) (fun hI4 => ?_) 0 (by omega) (by first | trivial | omega))
  · refine AR.run g_X1_greatestLeaf_4_3 9 [some (.ref 8192), some (.int (L_1greatestLeaf_4 tp j4)), some (.int (nI (j4)))] [.int (tn), .int (nI (j4))] _ [] rfl trivial ?_
    refine AR.top htn ?_
    refine AR.ge2N (tgt := 32) (a := j4) (b := p) dc_X1_greatestLeaf_9 (by decide) (by first | rfl | (simp only [nI_add, pk_mul]; first | done | rfl)) (by first | rfl | (simp only [nI_add, pk_mul]; first | done | rfl)) (by omega) (by omega) (fun c9_1 => absurd c9_1 (by omega)) (fun c9_1 => ?_)
    refine AR.run g_X1_greatestLeaf_12_5 19 [some (.ref 8192), some (.int (L_1greatestLeaf_4 tp j4)), some (.int (nI (j4)))] [.int (nI (1)), .int (nI (j4)), .ref 8194, .int (L_1greatestLeaf_4 tp j4)] _ [] rfl trivial ?_
    refine AR.callV1 (8194) [.int (nI (j4)), .int (nI (1))] [.int (L_1greatestLeaf_4 tp j4)] lk_1_58 dc_X1_greatestLeaf_19 rfl rfl (s_3atP _ j4 1 (by omega) (by omega)) (by first | rfl | (simp only [nI_add, pk_mul]; first | done | rfl)) rfl ?_
    refine AR.run g_X1_greatestLeaf_22_4 4 [some (.ref 8192), some (.int (if (L_1greatestLeaf_4 tp j4) < (tp (j4 * 3 + 1)) then (tp (j4 * 3 + 1)) else (L_1greatestLeaf_4 tp j4))), some (.int ((nI (j4)) + (nI (1))))] [] _ [] rfl trivial ?_
    have e2 : L_1greatestLeaf_4 tp (j4 + 1) = (if (L_1greatestLeaf_4 tp j4) < (tp (j4 * 3 + 1)) then (tp (j4 * 3 + 1)) else (L_1greatestLeaf_4 tp j4)) := by rw [L_1greatestLeaf_4, B_1greatestLeaf_4]
    exact AR.cast (L' := [some (.ref 8192), some (.int (L_1greatestLeaf_4 tp (j4 + 1))), some (.int (nI (j4 + 1)))]) (by rw [e2, nI_add]) rfl rfl (ih4 (by first | trivial | omega))
  · refine AR.run g_X1_greatestLeaf_4_3 9 [some (.ref 8192), some (.int (L_1greatestLeaf_4 tp p)), some (.int (nI (p)))] [.int (tn), .int (nI (p))] _ [] rfl trivial ?_
    refine AR.top htn ?_
    refine AR.ge2N (tgt := 32) (a := p) (b := p) dc_X1_greatestLeaf_9 (by decide) (by first | rfl | (simp only [nI_add, pk_mul]; first | done | rfl)) (by first | rfl | (simp only [nI_add, pk_mul]; first | done | rfl)) (by omega) (by omega) (fun c9_3 => ?_) (fun c9_3 => absurd c9_3 (by omega))
    refine AR.run g_X1_greatestLeaf_32_1 33 [some (.ref 8192), some (.int (L_1greatestLeaf_4 tp p)), some (.int (nI (p)))] [.int (L_1greatestLeaf_4 tp p)] _ [] rfl trivial ?_
    exact AR.retI dc_X1_greatestLeaf_33 rfl rfl rfl
def F_1leastNumber (trd : Int32) (tf : Int32) : Int32 := if trd = (nI (2)) then (nI (1800)) else if trd = (nI (1)) then (tf + (nI (1))) else (nI (0))
theorem g_X1_leastNumber_0_3 : ab_oks M_X1_leastNumber [(0, .aload_n 0, 1, 0, 0, 0, .null), (1, .getfield 31, 3, 1, 4, 126, .null), (4, .iconst 2, 1, 0, 0, 0, .int (nI (2)))] = true := by decide +kernel
theorem dc_X1_leastNumber_5 : decode (AM.bytes M_X1_leastNumber) 5 = .ok (.if_icmp .ne 7, 3) := by decide +kernel
theorem g_X1_leastNumber_12_3 : ab_oks M_X1_leastNumber [(12, .aload_n 0, 1, 0, 0, 0, .null), (13, .getfield 31, 3, 1, 4, 126, .null), (16, .iconst 1, 1, 0, 0, 0, .int (nI (1)))] = true := by decide +kernel
theorem dc_X1_leastNumber_17 : decode (AM.bytes M_X1_leastNumber) 17 = .ok (.if_icmp .ne 12, 3) := by decide +kernel
theorem g_X1_leastNumber_29_1 : ab_oks M_X1_leastNumber [(29, .iconst 0, 1, 0, 0, 0, .int (nI (0)))] = true := by decide +kernel
theorem dc_X1_leastNumber_30 : decode (AM.bytes M_X1_leastNumber) 30 = .ok (.ireturn, 1) := by decide +kernel
theorem g_X1_leastNumber_20_5 : ab_oks M_X1_leastNumber [(20, .aload_n 0, 1, 0, 0, 0, .null), (21, .getfield 40, 3, 1, 7, 129, .null), (24, .iconst 1, 1, 0, 0, 0, .int (nI (1))), (25, .iadd, 1, 0, 0, 0, .null), (26, .goto 4, 3, 30, 0, 0, .null)] = true := by decide +kernel
theorem g_X1_leastNumber_8_1 : ab_oks M_X1_leastNumber [(8, .sipush 1800, 3, 0, 0, 0, .int (nI (1800)))] = true := by decide +kernel
theorem dc_X1_leastNumber_11 : decode (AM.bytes M_X1_leastNumber) 11 = .ok (.ireturn, 1) := by decide +kernel
set_option maxRecDepth 100000 in
set_option maxHeartbeats 4000000 in
theorem s_1leastNumber {E : AE} (d : Nat)  {o0 a0 p0 m0 u0 l0 : List AC} {tc tp : Nat → Int32} {tl_ tn trd tv tdg tf tla : Int32} : CT E M_X1_leastNumber d [.ref 8192] (hp o0 a0 (te_ tc tp tl_ tn trd tv tdg tf tla) p0 m0 u0 l0) (.inl (some (.int (F_1leastNumber trd tf)))) (hp o0 a0 (te_ tc tp tl_ tn trd tv tdg tf tla) p0 m0 u0 l0) 0 0 := by
  refine CT.of (L := [some (.ref 8192)]) rfl rfl ?_
  refine AR.run g_X1_leastNumber_0_3 5 [some (.ref 8192)] [.int (nI (2)), .int (trd)] _ [] rfl trivial ?_
  refine AR.ne2 (tgt := 12) dc_X1_leastNumber_5 (by decide) (fun c5_1 => ?_) (fun c5_1 => ?_)
  · refine AR.run g_X1_leastNumber_12_3 17 [some (.ref 8192)] [.int (nI (1)), .int (trd)] _ [] rfl trivial ?_
    refine AR.ne2 (tgt := 29) dc_X1_leastNumber_17 (by decide) (fun c17_2 => ?_) (fun c17_2 => ?_)
    · refine AR.run g_X1_leastNumber_29_1 30 [some (.ref 8192)] [.int (nI (0))] _ [] rfl trivial ?_
      have e3_0 : F_1leastNumber trd tf = (nI (0)) := by rw [F_1leastNumber, if_neg c5_1, if_neg c17_2]
      exact AR.retI dc_X1_leastNumber_30 rfl e3_0.symm rfl
    · refine AR.run g_X1_leastNumber_20_5 30 [some (.ref 8192)] [.int (tf + (nI (1)))] _ [] rfl trivial ?_
      have e4_0 : F_1leastNumber trd tf = (tf + (nI (1))) := by rw [F_1leastNumber, if_neg c5_1, if_pos c17_2]
      exact AR.retI dc_X1_leastNumber_30 rfl e4_0.symm rfl
  · refine AR.run g_X1_leastNumber_8_1 11 [some (.ref 8192)] [.int (nI (1800))] _ [] rfl trivial ?_
    have e5_0 : F_1leastNumber trd tf = (nI (1800)) := by rw [F_1leastNumber, if_pos c5_1]
    exact AR.retI dc_X1_leastNumber_11 rfl e5_0.symm rfl
def F_1greatestNumber (trd : Int32) : Int32 := if trd = (nI (2)) then (nI (2199)) else (nI (39))
theorem g_X1_greatestNumber_0_3 : ab_oks M_X1_greatestNumber [(0, .aload_n 0, 1, 0, 0, 0, .null), (1, .getfield 31, 3, 1, 4, 126, .null), (4, .iconst 2, 1, 0, 0, 0, .int (nI (2)))] = true := by decide +kernel
theorem dc_X1_greatestNumber_5 : decode (AM.bytes M_X1_greatestNumber) 5 = .ok (.if_icmp .ne 9, 3) := by decide +kernel
theorem g_X1_greatestNumber_14_1 : ab_oks M_X1_greatestNumber [(14, .bipush 39, 2, 0, 0, 0, .int (nI (39)))] = true := by decide +kernel
theorem dc_X1_greatestNumber_16 : decode (AM.bytes M_X1_greatestNumber) 16 = .ok (.ireturn, 1) := by decide +kernel
theorem g_X1_greatestNumber_8_2 : ab_oks M_X1_greatestNumber [(8, .sipush 2199, 3, 0, 0, 0, .int (nI (2199))), (11, .goto 5, 3, 16, 0, 0, .null)] = true := by decide +kernel
set_option maxRecDepth 100000 in
set_option maxHeartbeats 4000000 in
theorem s_1greatestNumber {E : AE} (d : Nat)  {o0 a0 p0 m0 u0 l0 : List AC} {tc tp : Nat → Int32} {tl_ tn trd tv tdg tf tla : Int32} : CT E M_X1_greatestNumber d [.ref 8192] (hp o0 a0 (te_ tc tp tl_ tn trd tv tdg tf tla) p0 m0 u0 l0) (.inl (some (.int (F_1greatestNumber trd)))) (hp o0 a0 (te_ tc tp tl_ tn trd tv tdg tf tla) p0 m0 u0 l0) 0 0 := by
  refine CT.of (L := [some (.ref 8192)]) rfl rfl ?_
  refine AR.run g_X1_greatestNumber_0_3 5 [some (.ref 8192)] [.int (nI (2)), .int (trd)] _ [] rfl trivial ?_
  refine AR.ne2 (tgt := 14) dc_X1_greatestNumber_5 (by decide) (fun c5_1 => ?_) (fun c5_1 => ?_)
  · refine AR.run g_X1_greatestNumber_14_1 16 [some (.ref 8192)] [.int (nI (39))] _ [] rfl trivial ?_
    have e2_0 : F_1greatestNumber trd = (nI (39)) := by rw [F_1greatestNumber, if_neg c5_1]
    exact AR.retI dc_X1_greatestNumber_16 rfl e2_0.symm rfl
  · refine AR.run g_X1_greatestNumber_8_2 16 [some (.ref 8192)] [.int (nI (2199))] _ [] rfl trivial ?_
    have e3_0 : F_1greatestNumber trd = (nI (2199)) := by rw [F_1greatestNumber, if_pos c5_1]
    exact AR.retI dc_X1_greatestNumber_16 rfl e3_0.symm rfl
def W_1beginsNumber_22 (a : Int32) (b : Int32) : Nat → Nat → (Int32) → (Int32) → (Int32)
  | 0, j22, x22_3, x22_4 => (nI (0))
  | f22 + 1, j22, x22_3, x22_4 => if b < x22_3 then (nI (0)) else if x22_4 < a then W_1beginsNumber_22 a b f22 (j22 + 1) (x22_3 * (nI (10))) ((x22_4 * (nI (10))) + (nI (9))) else (nI (1))
def F_1beginsNumber (w : Int32) (a : Int32) (b : Int32) : Int32 := if w = 0 then if 0 < a then (nI (0)) else (nI (1)) else (W_1beginsNumber_22 a b 4 0 w w)
theorem g_X1_beginsNumber_0_1 : ab_oks M_X1_beginsNumber [(0, .iload_n 0, 1, 0, 0, 0, .null)] = true := by decide +kernel
theorem dc_X1_beginsNumber_1 : decode (AM.bytes M_X1_beginsNumber) 1 = .ok (.ifCond .ne 13, 3) := by decide +kernel
theorem g_X1_beginsNumber_14_6 : ab_oks M_X1_beginsNumber [(14, .iload_n 0, 1, 0, 0, 0, .null), (15, .istore_n 3, 1, 3, 0, 0, .null), (16, .iload_n 0, 1, 0, 0, 0, .null), (17, .istore 4, 2, 4, 0, 0, .null), (19, .iconst 0, 1, 0, 0, 0, .int (nI (0))), (20, .istore 5, 2, 5, 0, 0, .null)] = true := by decide +kernel
theorem g_X1_beginsNumber_22_2 : ab_oks M_X1_beginsNumber [(22, .iload 5, 2, 5, 0, 0, .null), (24, .iconst 4, 1, 0, 0, 0, .int (nI (4)))] = true := by decide +kernel
theorem dc_X1_beginsNumber_25 : decode (AM.bytes M_X1_beginsNumber) 25 = .ok (.if_icmp .ge 37, 3) := by decide +kernel
theorem g_X1_beginsNumber_62_1 : ab_oks M_X1_beginsNumber [(62, .iconst 0, 1, 0, 0, 0, .int (nI (0)))] = true := by decide +kernel
theorem dc_X1_beginsNumber_63 : decode (AM.bytes M_X1_beginsNumber) 63 = .ok (.ireturn, 1) := by decide +kernel
theorem g_X1_beginsNumber_28_2 : ab_oks M_X1_beginsNumber [(28, .iload_n 3, 1, 3, 0, 0, .null), (29, .iload_n 2, 1, 2, 0, 0, .null)] = true := by decide +kernel
theorem dc_X1_beginsNumber_30 : decode (AM.bytes M_X1_beginsNumber) 30 = .ok (.if_icmp .gt 32, 3) := by decide +kernel
theorem g_X1_beginsNumber_33_2 : ab_oks M_X1_beginsNumber [(33, .iload 4, 2, 4, 0, 0, .null), (35, .iload_n 1, 1, 1, 0, 0, .null)] = true := by decide +kernel
theorem dc_X1_beginsNumber_36 : decode (AM.bytes M_X1_beginsNumber) 36 = .ok (.if_icmp .lt 5, 3) := by decide +kernel
theorem g_X1_beginsNumber_41_12 : ab_oks M_X1_beginsNumber [(41, .iload_n 3, 1, 3, 0, 0, .null), (42, .bipush 10, 2, 0, 0, 0, .int (nI (10))), (44, .imul, 1, 0, 0, 0, .null), (45, .istore_n 3, 1, 3, 0, 0, .null), (46, .iload 4, 2, 4, 0, 0, .null), (48, .bipush 10, 2, 0, 0, 0, .int (nI (10))), (50, .imul, 1, 0, 0, 0, .null), (51, .bipush 9, 2, 0, 0, 0, .int (nI (9))), (53, .iadd, 1, 0, 0, 0, .null), (54, .istore 4, 2, 4, 0, 0, .null), (56, .iinc 5 1, 3, 5, 0, 0, .int (nI (1))), (59, .goto (-37), 3, 22, 0, 0, .null)] = true := by decide +kernel
theorem g_X1_beginsNumber_39_1 : ab_oks M_X1_beginsNumber [(39, .iconst 1, 1, 0, 0, 0, .int (nI (1)))] = true := by decide +kernel
theorem dc_X1_beginsNumber_40 : decode (AM.bytes M_X1_beginsNumber) 40 = .ok (.ireturn, 1) := by decide +kernel
theorem g_X1_beginsNumber_4_1 : ab_oks M_X1_beginsNumber [(4, .iload_n 1, 1, 1, 0, 0, .null)] = true := by decide +kernel
theorem dc_X1_beginsNumber_5 : decode (AM.bytes M_X1_beginsNumber) 5 = .ok (.ifCond .gt 7, 3) := by decide +kernel
theorem g_X1_beginsNumber_12_1 : ab_oks M_X1_beginsNumber [(12, .iconst 0, 1, 0, 0, 0, .int (nI (0)))] = true := by decide +kernel
theorem dc_X1_beginsNumber_13 : decode (AM.bytes M_X1_beginsNumber) 13 = .ok (.ireturn, 1) := by decide +kernel
theorem g_X1_beginsNumber_8_2 : ab_oks M_X1_beginsNumber [(8, .iconst 1, 1, 0, 0, 0, .int (nI (1))), (9, .goto 4, 3, 13, 0, 0, .null)] = true := by decide +kernel
set_option maxRecDepth 100000 in
set_option maxHeartbeats 4000000 in
theorem s_1beginsNumber {E : AE} (d : Nat) (w : Int32) (a : Int32) (b : Int32)  {h : AH} : CT E M_X1_beginsNumber d [.int (w), .int (a), .int (b)] h (.inl (some (.int (F_1beginsNumber w a b)))) h 0 0 := by
  refine CT.of (L := [some (.int (w)), some (.int (a)), some (.int (b)), none, none, none]) rfl rfl ?_
  refine AR.run g_X1_beginsNumber_0_1 1 [some (.int (w)), some (.int (a)), some (.int (b)), none, none, none] [.int (w)] _ [] rfl trivial ?_
  refine AR.ne (tgt := 14) dc_X1_beginsNumber_1 (by decide) (fun c1_1 => ?_) (fun c1_1 => ?_)
  · refine AR.run g_X1_beginsNumber_14_6 22 [some (.int (w)), some (.int (a)), some (.int (b)), some (.int (w)), some (.int (w)), some (.int (nI (0)))] [] _ [] rfl trivial ?_
    have hW : ∀ (f22 j22 : Nat) (x22_3 : Int32) (x22_4 : Int32), j22 + f22 = 4 → AR E M_X1_beginsNumber d 22 [some (.int (w)), some (.int (a)), some (.int (b)), some (.int (x22_3)), some (.int (x22_4)), some (.int (nI (j22)))] [] h (.inl (some (.int (W_1beginsNumber_22 a b f22 j22 x22_3 x22_4)))) h 0 0 := by
      intro f22
      induction f22 with
      | zero => 
        intro j22 x22_3 x22_4 hj22
        refine AR.run g_X1_beginsNumber_22_2 25 [some (.int (w)), some (.int (a)), some (.int (b)), some (.int (x22_3)), some (.int (x22_4)), some (.int (nI (j22)))] [.int (nI (4)), .int (nI (j22))] _ [] rfl trivial ?_
        refine AR.ge2N (tgt := 62) (a := j22) (b := 4) dc_X1_beginsNumber_25 (by decide) (by first | rfl | (simp only [nI_add, pk_mul]; first | done | rfl)) (by first | rfl | (simp only [nI_add, pk_mul]; first | done | rfl)) (by omega) (by omega) (fun c25_2 => ?_) (fun c25_2 => absurd c25_2 (by omega))
        refine AR.run g_X1_beginsNumber_62_1 63 [some (.int (w)), some (.int (a)), some (.int (b)), some (.int (x22_3)), some (.int (x22_4)), some (.int (nI (j22)))] [.int (nI (0))] _ [] rfl trivial ?_
        have e3 : W_1beginsNumber_22 a b 0 j22 x22_3 x22_4 = (nI (0)) := by rw [W_1beginsNumber_22]
        rw [e3]
        exact AR.retZ dc_X1_beginsNumber_63 rfl (Or.inl rfl) rfl rfl
      | succ f22 ih22 => 
        intro j22 x22_3 x22_4 hj22
        refine AR.run g_X1_beginsNumber_22_2 25 [some (.int (w)), some (.int (a)), some (.int (b)), some (.int (x22_3)), some (.int (x22_4)), some (.int (nI (j22)))] [.int (nI (4)), .int (nI (j22))] _ [] rfl trivial ?_
        refine AR.ge2N (tgt := 62) (a := j22) (b := 4) dc_X1_beginsNumber_25 (by decide) (by first | rfl | (simp only [nI_add, pk_mul]; first | done | rfl)) (by first | rfl | (simp only [nI_add, pk_mul]; first | done | rfl)) (by omega) (by omega) (fun c25_4 => absurd c25_4 (by omega)) (fun c25_4 => ?_)
        refine AR.run g_X1_beginsNumber_28_2 30 [some (.int (w)), some (.int (a)), some (.int (b)), some (.int (x22_3)), some (.int (x22_4)), some (.int (nI (j22)))] [.int (b), .int (x22_3)] _ [] rfl trivial ?_
        refine AR.gt2 (tgt := 62) dc_X1_beginsNumber_30 (by decide) (fun c30_5 => ?_) (fun c30_5 => ?_)
        · refine AR.run g_X1_beginsNumber_62_1 63 [some (.int (w)), some (.int (a)), some (.int (b)), some (.int (x22_3)), some (.int (x22_4)), some (.int (nI (j22)))] [.int (nI (0))] _ [] rfl trivial ?_
          have e6 : W_1beginsNumber_22 a b (f22 + 1) j22 x22_3 x22_4 = (nI (0)) := by rw [W_1beginsNumber_22, if_pos c30_5]
          rw [e6]
          exact AR.retZ dc_X1_beginsNumber_63 rfl (Or.inl rfl) rfl rfl
        · refine AR.run g_X1_beginsNumber_33_2 36 [some (.int (w)), some (.int (a)), some (.int (b)), some (.int (x22_3)), some (.int (x22_4)), some (.int (nI (j22)))] [.int (a), .int (x22_4)] _ [] rfl trivial ?_
          refine AR.lt2 (tgt := 41) dc_X1_beginsNumber_36 (by decide) (fun c36_7 => ?_) (fun c36_7 => ?_)
          · refine AR.run g_X1_beginsNumber_41_12 22 [some (.int (w)), some (.int (a)), some (.int (b)), some (.int (x22_3 * (nI (10)))), some (.int ((x22_4 * (nI (10))) + (nI (9)))), some (.int ((nI (j22)) + (nI (1))))] [] _ [] rfl trivial ?_
            have e8 : W_1beginsNumber_22 a b (f22 + 1) j22 x22_3 x22_4 = W_1beginsNumber_22 a b f22 (j22 + 1) (x22_3 * (nI (10))) ((x22_4 * (nI (10))) + (nI (9))) := by rw [W_1beginsNumber_22, if_neg c30_5, if_pos c36_7]
            rw [e8]
            exact AR.cast (L' := [some (.int (w)), some (.int (a)), some (.int (b)), some (.int (x22_3 * (nI (10)))), some (.int ((x22_4 * (nI (10))) + (nI (9)))), some (.int (nI (j22 + 1)))]) (by first | rfl | rw [nI_add]) rfl rfl (ih22 (j22 + 1) (x22_3 * (nI (10))) ((x22_4 * (nI (10))) + (nI (9))) (by omega) )
          · refine AR.run g_X1_beginsNumber_39_1 40 [some (.int (w)), some (.int (a)), some (.int (b)), some (.int (x22_3)), some (.int (x22_4)), some (.int (nI (j22)))] [.int (nI (1))] _ [] rfl trivial ?_
            have e9 : W_1beginsNumber_22 a b (f22 + 1) j22 x22_3 x22_4 = (nI (1)) := by rw [W_1beginsNumber_22, if_neg c30_5, if_neg c36_7]
            rw [e9]
            exact AR.retZ dc_X1_beginsNumber_40 rfl (Or.inr rfl) rfl rfl
    have e11_0 : F_1beginsNumber w a b = (W_1beginsNumber_22 a b 4 0 w w) := by rw [F_1beginsNumber, if_neg c1_1]
    exact AR.end' (by first | rfl | (rw [e11_0])) rfl (AR.cast rfl rfl rfl (hW 4 0 w w (by omega)))
  · refine AR.run g_X1_beginsNumber_4_1 5 [some (.int (w)), some (.int (a)), some (.int (b)), none, none, none] [.int (a)] _ [] rfl trivial ?_
    refine AR.gt (tgt := 12) dc_X1_beginsNumber_5 (by decide) (fun c5_12 => ?_) (fun c5_12 => ?_)
    · refine AR.run g_X1_beginsNumber_12_1 13 [some (.int (w)), some (.int (a)), some (.int (b)), none, none, none] [.int (nI (0))] _ [] rfl trivial ?_
      have e13_0 : F_1beginsNumber w a b = (nI (0)) := by rw [F_1beginsNumber, if_pos c1_1, if_pos c5_12]
      exact AR.retZ dc_X1_beginsNumber_13 rfl (Or.inl rfl) e13_0.symm rfl
    · refine AR.run g_X1_beginsNumber_8_2 13 [some (.int (w)), some (.int (a)), some (.int (b)), none, none, none] [.int (nI (1))] _ [] rfl trivial ?_
      have e14_0 : F_1beginsNumber w a b = (nI (1)) := by rw [F_1beginsNumber, if_pos c1_1, if_neg c5_12]
      exact AR.retZ dc_X1_beginsNumber_13 rfl (Or.inr rfl) e14_0.symm rfl
def F_3putPP_tp (r : Nat) (c : Nat) (x : Int32) (tp : Nat → Int32) : Nat → Int32 := if 10 ≤ r then tp else (upd tp ((r * 3) + c) x)
set_option maxRecDepth 100000 in
set_option maxHeartbeats 4000000 in
theorem s_3putPP {E : AE} (d : Nat) (r : Nat) (c : Nat) (x : Int32)  {o0 a0 p0 m0 u0 l0 : List AC} {tc tp : Nat → Int32} {tl_ tn trd tv tdg tf tla : Int32} (hr : r < 1000) (hc : c < 3) : CT E M_X3_put d [.ref 8194, .int (nI (r)), .int (nI (c)), .int (x)] (hp o0 a0 (te_ tc tp tl_ tn trd tv tdg tf tla) p0 m0 u0 l0) (.inl none) (hp o0 a0 (te_ tc (F_3putPP_tp r c x tp) tl_ tn trd tv tdg tf tla) p0 m0 u0 l0) 0 0 := by
  refine CT.of (L := [some (.ref 8194), some (.int (nI (r))), some (.int (nI (c))), some (.int (x))]) rfl rfl ?_
  refine AR.run g_X3_put_0_1 1 [some (.ref 8194), some (.int (nI (r))), some (.int (nI (c))), some (.int (x))] [.int (nI (r))] _ [] rfl trivial ?_
  refine AR.ltN (tgt := 38) (a := r) dc_X3_put_1 (by decide) (by first | rfl | (simp only [nI_add, pk_mul]; first | done | rfl)) (by omega) (fun c1_1 => absurd c1_1 (fun q => q)) (fun c1_1 => ?_)
  refine AR.run g_X3_put_4_3 9 [some (.ref 8194), some (.int (nI (r))), some (.int (nI (c))), some (.int (x))] [.int (nI (10)), .int (nI (r))] _ [] rfl trivial ?_
  refine AR.ge2N (tgt := 38) (a := r) (b := 10) dc_X3_put_9 (by decide) (by first | rfl | (simp only [nI_add, pk_mul]; first | done | rfl)) (by first | rfl | (simp only [nI_add, pk_mul]; first | done | rfl)) (by omega) (by omega) (fun c9_2 => ?_) (fun c9_2 => ?_)
  · have e3_0 : F_3putPP_tp r c x tp = tp := by rw [F_3putPP_tp, if_pos (show 10 ≤ r from by omega)]
    exact AR.retV dc_X3_put_38 rfl (by rw [e3_0])
  · refine AR.run g_X3_put_12_1 13 [some (.ref 8194), some (.int (nI (r))), some (.int (nI (c))), some (.int (x))] [.int (nI (c))] _ [] rfl trivial ?_
    refine AR.ltN (tgt := 38) (a := c) dc_X3_put_13 (by decide) (by first | rfl | (simp only [nI_add, pk_mul]; first | done | rfl)) (by omega) (fun c13_4 => absurd c13_4 (fun q => q)) (fun c13_4 => ?_)
    refine AR.run g_X3_put_16_3 21 [some (.ref 8194), some (.int (nI (r))), some (.int (nI (c))), some (.int (x))] [.int (nI (3)), .int (nI (c))] _ [] rfl trivial ?_
    refine AR.ge2N (tgt := 38) (a := c) (b := 3) dc_X3_put_21 (by decide) (by first | rfl | (simp only [nI_add, pk_mul]; first | done | rfl)) (by first | rfl | (simp only [nI_add, pk_mul]; first | done | rfl)) (by omega) (by omega) (fun c21_5 => absurd c21_5 (by omega)) (fun c21_5 => ?_)
    refine AR.run g_X3_put_24_9 37 [some (.ref 8194), some (.int (nI (r))), some (.int (nI (c))), some (.int (x))] [.int (x), .int (((nI (r)) * (nI (3))) + (nI (c))), .ref 8195] _ [] rfl trivial ?_
    refine AR.ast (n := 0) (e := ((r * 3) + c)) (h1 := (hp o0 a0 (te_ tc (upd tp ((r * 3) + c) x) tl_ tn trd tv tdg tf tla) p0 m0 u0 l0)) ok_X3_put_37 (by first | rfl | (simp only [nI_add, pk_mul]; first | done | rfl)) rfl rfl (by omega) (by decide) rfl ?_
    have e6_0 : F_3putPP_tp r c x tp = (upd tp ((r * 3) + c) x) := by rw [F_3putPP_tp, if_neg (show ¬ (10 ≤ r) from by omega)]
    exact AR.retV dc_X3_put_38 rfl (by rw [e6_0])
def F_1keepPart_tp (tp : Nat → Int32) (tn : Int32) (tv : Int32) (tf : Int32) (tla : Int32) : Nat → Int32 := (F_3putPP_tp (tn.toNatClampNeg) 2 tv (F_3putPP_tp (tn.toNatClampNeg) 1 tla (F_3putPP_tp (tn.toNatClampNeg) 0 tf tp)))
def F_1keepPart_tn (tn : Int32) : Int32 := ((nI ((tn.toNatClampNeg))) + (nI (1)))
theorem g_X1_keepPart_0_4 : ab_oks M_X1_keepPart [(0, .aload_n 0, 1, 0, 0, 0, .null), (1, .getfield 20, 3, 1, 1, 123, .null), (4, .aload_n 0, 1, 0, 0, 0, .null), (5, .getfield 28, 3, 1, 3, 125, .null)] = true := by decide +kernel
theorem g_X1_keepPart_8_3 : ab_oks M_X1_keepPart [(8, .iconst 0, 1, 0, 0, 0, .int (nI (0))), (9, .aload_n 0, 1, 0, 0, 0, .null), (10, .getfield 40, 3, 1, 7, 129, .null)] = true := by decide +kernel
theorem lk_1_97 : ab_lkV "LeafCradles$BarText" 97 M_X3_put 3 [747, 86, 87, 31, 88] = true := by decide +kernel
theorem dc_X1_keepPart_13 : decode (AM.bytes M_X1_keepPart) 13 = .ok (.invokevirtual 97, 3) := by decide +kernel
theorem g_X1_keepPart_16_4 : ab_oks M_X1_keepPart [(16, .aload_n 0, 1, 0, 0, 0, .null), (17, .getfield 20, 3, 1, 1, 123, .null), (20, .aload_n 0, 1, 0, 0, 0, .null), (21, .getfield 28, 3, 1, 3, 125, .null)] = true := by decide +kernel
theorem g_X1_keepPart_24_3 : ab_oks M_X1_keepPart [(24, .iconst 1, 1, 0, 0, 0, .int (nI (1))), (25, .aload_n 0, 1, 0, 0, 0, .null), (26, .getfield 43, 3, 1, 8, 130, .null)] = true := by decide +kernel
theorem dc_X1_keepPart_29 : decode (AM.bytes M_X1_keepPart) 29 = .ok (.invokevirtual 97, 3) := by decide +kernel
theorem g_X1_keepPart_32_4 : ab_oks M_X1_keepPart [(32, .aload_n 0, 1, 0, 0, 0, .null), (33, .getfield 20, 3, 1, 1, 123, .null), (36, .aload_n 0, 1, 0, 0, 0, .null), (37, .getfield 28, 3, 1, 3, 125, .null)] = true := by decide +kernel
theorem g_X1_keepPart_40_3 : ab_oks M_X1_keepPart [(40, .iconst 2, 1, 0, 0, 0, .int (nI (2))), (41, .aload_n 0, 1, 0, 0, 0, .null), (42, .getfield 34, 3, 1, 5, 127, .null)] = true := by decide +kernel
theorem dc_X1_keepPart_45 : decode (AM.bytes M_X1_keepPart) 45 = .ok (.invokevirtual 97, 3) := by decide +kernel
theorem g_X1_keepPart_48_3 : ab_oks M_X1_keepPart [(48, .aload_n 0, 1, 0, 0, 0, .null), (49, .dup, 1, 0, 0, 0, .null), (50, .getfield 28, 3, 1, 3, 125, .null)] = true := by decide +kernel
theorem g_X1_keepPart_53_3 : ab_oks M_X1_keepPart [(53, .iconst 1, 1, 0, 0, 0, .int (nI (1))), (54, .iadd, 1, 0, 0, 0, .null), (55, .putfield 28, 3, 1, 3, 125, .null)] = true := by decide +kernel
theorem dc_X1_keepPart_58 : decode (AM.bytes M_X1_keepPart) 58 = .ok (.return_, 1) := by decide +kernel
set_option maxRecDepth 100000 in
set_option maxHeartbeats 4000000 in
theorem s_1keepPart {E : AE} (d : Nat)  {o0 a0 p0 m0 u0 l0 : List AC} {tc tp : Nat → Int32} {tl_ tn trd tv tdg tf tla : Int32} (htn : isN tn) (htb : tn.toNatClampNeg < 1000) : CT E M_X1_keepPart (d + 1) [.ref 8192] (hp o0 a0 (te_ tc tp tl_ tn trd tv tdg tf tla) p0 m0 u0 l0) (.inl none) (hp o0 a0 (te_ tc (F_1keepPart_tp tp tn tv tf tla) tl_ (F_1keepPart_tn tn) trd tv tdg tf tla) p0 m0 u0 l0) 0 0 := by
  refine CT.of (L := [some (.ref 8192)]) rfl rfl ?_
  refine AR.run g_X1_keepPart_0_4 8 [some (.ref 8192)] [.int (tn), .ref 8194] _ [] rfl trivial ?_
  refine AR.top htn ?_
  refine AR.run g_X1_keepPart_8_3 13 [some (.ref 8192)] [.int (tf), .int (nI (0)), .int (nI ((tn.toNatClampNeg))), .ref 8194] _ [] rfl trivial ?_
  refine AR.callV0 (8194) [.int (nI ((tn.toNatClampNeg))), .int (nI (0)), .int (tf)] [] lk_1_97 dc_X1_keepPart_13 rfl rfl (s_3putPP _ (tn.toNatClampNeg) 0 tf (by omega) (by omega)) (by first | rfl | (simp only [nI_add, pk_mul]; first | done | rfl)) rfl ?_
  refine AR.run g_X1_keepPart_16_4 24 [some (.ref 8192)] [.int (tn), .ref 8194] _ [] rfl trivial ?_
  refine AR.top htn ?_
  refine AR.run g_X1_keepPart_24_3 29 [some (.ref 8192)] [.int (tla), .int (nI (1)), .int (nI ((tn.toNatClampNeg))), .ref 8194] _ [] rfl trivial ?_
  refine AR.callV0 (8194) [.int (nI ((tn.toNatClampNeg))), .int (nI (1)), .int (tla)] [] lk_1_97 dc_X1_keepPart_29 rfl rfl (s_3putPP _ (tn.toNatClampNeg) 1 tla (by omega) (by omega)) (by first | rfl | (simp only [nI_add, pk_mul]; first | done | rfl)) rfl ?_
  refine AR.run g_X1_keepPart_32_4 40 [some (.ref 8192)] [.int (tn), .ref 8194] _ [] rfl trivial ?_
  refine AR.top htn ?_
  refine AR.run g_X1_keepPart_40_3 45 [some (.ref 8192)] [.int (tv), .int (nI (2)), .int (nI ((tn.toNatClampNeg))), .ref 8194] _ [] rfl trivial ?_
  refine AR.callV0 (8194) [.int (nI ((tn.toNatClampNeg))), .int (nI (2)), .int (tv)] [] lk_1_97 dc_X1_keepPart_45 rfl rfl (s_3putPP _ (tn.toNatClampNeg) 2 tv (by omega) (by omega)) (by first | rfl | (simp only [nI_add, pk_mul]; first | done | rfl)) rfl ?_
  refine AR.run g_X1_keepPart_48_3 53 [some (.ref 8192)] [.int (tn), .ref 8192] _ [] rfl trivial ?_
  refine AR.top htn ?_
  refine AR.run g_X1_keepPart_53_3 58 [some (.ref 8192)] [] (hp o0 a0 (te_ tc (F_3putPP_tp (tn.toNatClampNeg) 2 tv (F_3putPP_tp (tn.toNatClampNeg) 1 tla (F_3putPP_tp (tn.toNatClampNeg) 0 tf tp))) tl_ ((nI ((tn.toNatClampNeg))) + (nI (1))) trd tv tdg tf tla) p0 m0 u0 l0) [] rfl trivial ?_
  have e1_0 : F_1keepPart_tp tp tn tv tf tla = (F_3putPP_tp (tn.toNatClampNeg) 2 tv (F_3putPP_tp (tn.toNatClampNeg) 1 tla (F_3putPP_tp (tn.toNatClampNeg) 0 tf tp))) := by rw [F_1keepPart_tp]
  have e1_1 : F_1keepPart_tn tn = ((nI ((tn.toNatClampNeg))) + (nI (1))) := by rw [F_1keepPart_tn]
  exact AR.retV dc_X1_keepPart_58 rfl (by rw [e1_0, e1_1])
def F_1acceptsDash (trd : Int32) (tv : Int32) (tdg : Int32) : Int32 := if trd = 0 then if tdg = 0 then (nI (0)) else if tv < (nI (39)) then (nI (1)) else (nI (0)) else (nI (0))
theorem F_1acceptsDash_01 (trd : Int32) (tv : Int32) (tdg : Int32) : F_1acceptsDash trd tv tdg = nI 0 ∨ F_1acceptsDash trd tv tdg = nI 1 := by
  unfold F_1acceptsDash
  (repeat' split) <;> first | exact Or.inl rfl | exact Or.inr rfl | exact wi01 _ _ _
def F_1acceptsDash_trd (trd : Int32) (tv : Int32) (tdg : Int32) : Int32 := if trd = 0 then if tdg = 0 then trd else if tv < (nI (39)) then (F_1begin_trd (nI (1))) else trd else trd
def F_1acceptsDash_tv (trd : Int32) (tv : Int32) (tdg : Int32) : Int32 := if trd = 0 then if tdg = 0 then tv else if tv < (nI (39)) then F_1begin_tv else tv else tv
def F_1acceptsDash_tdg (trd : Int32) (tv : Int32) (tdg : Int32) : Int32 := if trd = 0 then if tdg = 0 then tdg else if tv < (nI (39)) then F_1begin_tdg else tdg else tdg
def F_1acceptsDash_tf (trd : Int32) (tv : Int32) (tdg : Int32) (tf : Int32) : Int32 := if trd = 0 then if tdg = 0 then tf else if tv < (nI (39)) then tv else tf else tf
theorem g_X1_acceptsDash_0_2 : ab_oks M_X1_acceptsDash [(0, .aload_n 0, 1, 0, 0, 0, .null), (1, .getfield 31, 3, 1, 4, 126, .null)] = true := by decide +kernel
theorem dc_X1_acceptsDash_4 : decode (AM.bytes M_X1_acceptsDash) 4 = .ok (.ifCond .ne 19, 3) := by decide +kernel
theorem g_X1_acceptsDash_23_1 : ab_oks M_X1_acceptsDash [(23, .iconst 0, 1, 0, 0, 0, .int (nI (0)))] = true := by decide +kernel
theorem dc_X1_acceptsDash_24 : decode (AM.bytes M_X1_acceptsDash) 24 = .ok (.ireturn, 1) := by decide +kernel
theorem g_X1_acceptsDash_7_2 : ab_oks M_X1_acceptsDash [(7, .aload_n 0, 1, 0, 0, 0, .null), (8, .getfield 37, 3, 1, 6, 128, .null)] = true := by decide +kernel
theorem dc_X1_acceptsDash_11 : decode (AM.bytes M_X1_acceptsDash) 11 = .ok (.ifCond .eq 12, 3) := by decide +kernel
theorem g_X1_acceptsDash_14_3 : ab_oks M_X1_acceptsDash [(14, .aload_n 0, 1, 0, 0, 0, .null), (15, .getfield 34, 3, 1, 5, 127, .null), (18, .bipush 39, 2, 0, 0, 0, .int (nI (39)))] = true := by decide +kernel
theorem dc_X1_acceptsDash_20 : decode (AM.bytes M_X1_acceptsDash) 20 = .ok (.if_icmp .lt 5, 3) := by decide +kernel
theorem g_X1_acceptsDash_25_6 : ab_oks M_X1_acceptsDash [(25, .aload_n 0, 1, 0, 0, 0, .null), (26, .aload_n 0, 1, 0, 0, 0, .null), (27, .getfield 34, 3, 1, 5, 127, .null), (30, .putfield 40, 3, 1, 7, 129, .null), (33, .aload_n 0, 1, 0, 0, 0, .null), (34, .iconst 1, 1, 0, 0, 0, .int (nI (1)))] = true := by decide +kernel
theorem lk_1_46 : ab_lkV "LeafCradles$BarText" 46 M_X1_begin 1 [700, 702, 19, 33, 703] = true := by decide +kernel
theorem dc_X1_acceptsDash_35 : decode (AM.bytes M_X1_acceptsDash) 35 = .ok (.invokevirtual 46, 3) := by decide +kernel
theorem g_X1_acceptsDash_38_1 : ab_oks M_X1_acceptsDash [(38, .iconst 1, 1, 0, 0, 0, .int (nI (1)))] = true := by decide +kernel
theorem dc_X1_acceptsDash_39 : decode (AM.bytes M_X1_acceptsDash) 39 = .ok (.ireturn, 1) := by decide +kernel
set_option maxRecDepth 100000 in
set_option maxHeartbeats 4000000 in
theorem s_1acceptsDash {E : AE} (d : Nat)  {o0 a0 p0 m0 u0 l0 : List AC} {tc tp : Nat → Int32} {tl_ tn trd tv tdg tf tla : Int32} : CT E M_X1_acceptsDash (d + 1) [.ref 8192] (hp o0 a0 (te_ tc tp tl_ tn trd tv tdg tf tla) p0 m0 u0 l0) (.inl (some (.int (F_1acceptsDash trd tv tdg)))) (hp o0 a0 (te_ tc tp tl_ tn (F_1acceptsDash_trd trd tv tdg) (F_1acceptsDash_tv trd tv tdg) (F_1acceptsDash_tdg trd tv tdg) (F_1acceptsDash_tf trd tv tdg tf) tla) p0 m0 u0 l0) 0 0 := by
  refine CT.of (L := [some (.ref 8192)]) rfl rfl ?_
  refine AR.run g_X1_acceptsDash_0_2 4 [some (.ref 8192)] [.int (trd)] _ [] rfl trivial ?_
  refine AR.ne (tgt := 23) dc_X1_acceptsDash_4 (by decide) (fun c4_1 => ?_) (fun c4_1 => ?_)
  · refine AR.run g_X1_acceptsDash_23_1 24 [some (.ref 8192)] [.int (nI (0))] _ [] rfl trivial ?_
    have e2_0 : F_1acceptsDash trd tv tdg = (nI (0)) := by rw [F_1acceptsDash, if_neg c4_1]
    have e2_1 : F_1acceptsDash_trd trd tv tdg = trd := by rw [F_1acceptsDash_trd, if_neg c4_1]
    have e2_2 : F_1acceptsDash_tv trd tv tdg = tv := by rw [F_1acceptsDash_tv, if_neg c4_1]
    have e2_3 : F_1acceptsDash_tdg trd tv tdg = tdg := by rw [F_1acceptsDash_tdg, if_neg c4_1]
    have e2_4 : F_1acceptsDash_tf trd tv tdg tf = tf := by rw [F_1acceptsDash_tf, if_neg c4_1]
    exact AR.retZ dc_X1_acceptsDash_24 rfl (Or.inl rfl) e2_0.symm (by rw [e2_1, e2_2, e2_3, e2_4])
  · refine AR.run g_X1_acceptsDash_7_2 11 [some (.ref 8192)] [.int (tdg)] _ [] rfl trivial ?_
    refine AR.eq (tgt := 23) dc_X1_acceptsDash_11 (by decide) (fun c11_3 => ?_) (fun c11_3 => ?_)
    · refine AR.run g_X1_acceptsDash_23_1 24 [some (.ref 8192)] [.int (nI (0))] _ [] rfl trivial ?_
      have e4_0 : F_1acceptsDash trd tv tdg = (nI (0)) := by rw [F_1acceptsDash, if_pos c4_1, if_pos c11_3]
      have e4_1 : F_1acceptsDash_trd trd tv tdg = trd := by rw [F_1acceptsDash_trd, if_pos c4_1, if_pos c11_3]
      have e4_2 : F_1acceptsDash_tv trd tv tdg = tv := by rw [F_1acceptsDash_tv, if_pos c4_1, if_pos c11_3]
      have e4_3 : F_1acceptsDash_tdg trd tv tdg = tdg := by rw [F_1acceptsDash_tdg, if_pos c4_1, if_pos c11_3]
      have e4_4 : F_1acceptsDash_tf trd tv tdg tf = tf := by rw [F_1acceptsDash_tf, if_pos c4_1, if_pos c11_3]
      exact AR.retZ dc_X1_acceptsDash_24 rfl (Or.inl rfl) e4_0.symm (by rw [e4_1, e4_2, e4_3, e4_4])
    · refine AR.run g_X1_acceptsDash_14_3 20 [some (.ref 8192)] [.int (nI (39)), .int (tv)] _ [] rfl trivial ?_
      refine AR.lt2 (tgt := 25) dc_X1_acceptsDash_20 (by decide) (fun c20_5 => ?_) (fun c20_5 => ?_)
      · refine AR.run g_X1_acceptsDash_25_6 35 [some (.ref 8192)] [.int (nI (1)), .ref 8192] (hp o0 a0 (te_ tc tp tl_ tn trd tv tdg tv tla) p0 m0 u0 l0) [] rfl trivial ?_
        refine AR.callV0 (8192) [.int (nI (1))] [] lk_1_46 dc_X1_acceptsDash_35 rfl rfl (s_1begin _ (nI (1)) ) (by first | rfl | (simp only [nI_add, pk_mul]; first | done | rfl)) rfl ?_
        refine AR.run g_X1_acceptsDash_38_1 39 [some (.ref 8192)] [.int (nI (1))] _ [] rfl trivial ?_
        have e6_0 : F_1acceptsDash trd tv tdg = (nI (1)) := by rw [F_1acceptsDash, if_pos c4_1, if_neg c11_3, if_pos c20_5]
        have e6_1 : F_1acceptsDash_trd trd tv tdg = (F_1begin_trd (nI (1))) := by rw [F_1acceptsDash_trd, if_pos c4_1, if_neg c11_3, if_pos c20_5]
        have e6_2 : F_1acceptsDash_tv trd tv tdg = F_1begin_tv := by rw [F_1acceptsDash_tv, if_pos c4_1, if_neg c11_3, if_pos c20_5]
        have e6_3 : F_1acceptsDash_tdg trd tv tdg = F_1begin_tdg := by rw [F_1acceptsDash_tdg, if_pos c4_1, if_neg c11_3, if_pos c20_5]
        have e6_4 : F_1acceptsDash_tf trd tv tdg tf = tv := by rw [F_1acceptsDash_tf, if_pos c4_1, if_neg c11_3, if_pos c20_5]
        exact AR.retZ dc_X1_acceptsDash_39 rfl (Or.inr rfl) e6_0.symm (by rw [e6_1, e6_2, e6_3, e6_4])
      · refine AR.run g_X1_acceptsDash_23_1 24 [some (.ref 8192)] [.int (nI (0))] _ [] rfl trivial ?_
        have e7_0 : F_1acceptsDash trd tv tdg = (nI (0)) := by rw [F_1acceptsDash, if_pos c4_1, if_neg c11_3, if_neg c20_5]
        have e7_1 : F_1acceptsDash_trd trd tv tdg = trd := by rw [F_1acceptsDash_trd, if_pos c4_1, if_neg c11_3, if_neg c20_5]
        have e7_2 : F_1acceptsDash_tv trd tv tdg = tv := by rw [F_1acceptsDash_tv, if_pos c4_1, if_neg c11_3, if_neg c20_5]
        have e7_3 : F_1acceptsDash_tdg trd tv tdg = tdg := by rw [F_1acceptsDash_tdg, if_pos c4_1, if_neg c11_3, if_neg c20_5]
        have e7_4 : F_1acceptsDash_tf trd tv tdg tf = tf := by rw [F_1acceptsDash_tf, if_pos c4_1, if_neg c11_3, if_neg c20_5]
        exact AR.retZ dc_X1_acceptsDash_24 rfl (Or.inl rfl) e7_0.symm (by rw [e7_1, e7_2, e7_3, e7_4])
def F_1acceptsColon (trd : Int32) (tv : Int32) (tdg : Int32) (tf : Int32) : Int32 := if trd = (nI (2)) then (nI (0)) else if tdg = 0 then (nI (0)) else if (F_1leastNumber trd tf) ≤ tv then if trd = 0 then (nI (1)) else (nI (1)) else (nI (0))
theorem F_1acceptsColon_01 (trd : Int32) (tv : Int32) (tdg : Int32) (tf : Int32) : F_1acceptsColon trd tv tdg tf = nI 0 ∨ F_1acceptsColon trd tv tdg tf = nI 1 := by
  unfold F_1acceptsColon
  (repeat' split) <;> first | exact Or.inl rfl | exact Or.inr rfl | exact wi01 _ _ _
def F_1acceptsColon_trd (trd : Int32) (tv : Int32) (tdg : Int32) (tf : Int32) : Int32 := if trd = (nI (2)) then trd else if tdg = 0 then trd else if (F_1leastNumber trd tf) ≤ tv then if trd = 0 then (F_1begin_trd (nI (2))) else (F_1begin_trd (nI (2))) else trd
def F_1acceptsColon_tv (trd : Int32) (tv : Int32) (tdg : Int32) (tf : Int32) : Int32 := if trd = (nI (2)) then tv else if tdg = 0 then tv else if (F_1leastNumber trd tf) ≤ tv then if trd = 0 then F_1begin_tv else F_1begin_tv else tv
def F_1acceptsColon_tdg (trd : Int32) (tv : Int32) (tdg : Int32) (tf : Int32) : Int32 := if trd = (nI (2)) then tdg else if tdg = 0 then tdg else if (F_1leastNumber trd tf) ≤ tv then if trd = 0 then F_1begin_tdg else F_1begin_tdg else tdg
def F_1acceptsColon_tf (trd : Int32) (tv : Int32) (tdg : Int32) (tf : Int32) : Int32 := if trd = (nI (2)) then tf else if tdg = 0 then tf else if (F_1leastNumber trd tf) ≤ tv then if trd = 0 then tv else tf else tf
def F_1acceptsColon_tla (trd : Int32) (tv : Int32) (tdg : Int32) (tf : Int32) (tla : Int32) : Int32 := if trd = (nI (2)) then tla else if tdg = 0 then tla else if (F_1leastNumber trd tf) ≤ tv then if trd = 0 then tv else tv else tla
theorem g_X1_acceptsColon_0_3 : ab_oks M_X1_acceptsColon [(0, .aload_n 0, 1, 0, 0, 0, .null), (1, .getfield 31, 3, 1, 4, 126, .null), (4, .iconst 2, 1, 0, 0, 0, .int (nI (2)))] = true := by decide +kernel
theorem dc_X1_acceptsColon_5 : decode (AM.bytes M_X1_acceptsColon) 5 = .ok (.if_icmp .eq 21, 3) := by decide +kernel
theorem g_X1_acceptsColon_26_1 : ab_oks M_X1_acceptsColon [(26, .iconst 0, 1, 0, 0, 0, .int (nI (0)))] = true := by decide +kernel
theorem dc_X1_acceptsColon_27 : decode (AM.bytes M_X1_acceptsColon) 27 = .ok (.ireturn, 1) := by decide +kernel
theorem g_X1_acceptsColon_8_2 : ab_oks M_X1_acceptsColon [(8, .aload_n 0, 1, 0, 0, 0, .null), (9, .getfield 37, 3, 1, 6, 128, .null)] = true := by decide +kernel
theorem dc_X1_acceptsColon_12 : decode (AM.bytes M_X1_acceptsColon) 12 = .ok (.ifCond .eq 14, 3) := by decide +kernel
theorem g_X1_acceptsColon_15_3 : ab_oks M_X1_acceptsColon [(15, .aload_n 0, 1, 0, 0, 0, .null), (16, .getfield 34, 3, 1, 5, 127, .null), (19, .aload_n 0, 1, 0, 0, 0, .null)] = true := by decide +kernel
theorem lk_1_80 : ab_lkV "LeafCradles$BarText" 80 M_X1_leastNumber 0 [720, 722, 23, 33, 723] = true := by decide +kernel
theorem dc_X1_acceptsColon_20 : decode (AM.bytes M_X1_acceptsColon) 20 = .ok (.invokevirtual 80, 3) := by decide +kernel
theorem dc_X1_acceptsColon_23 : decode (AM.bytes M_X1_acceptsColon) 23 = .ok (.if_icmp .ge 5, 3) := by decide +kernel
theorem g_X1_acceptsColon_28_2 : ab_oks M_X1_acceptsColon [(28, .aload_n 0, 1, 0, 0, 0, .null), (29, .getfield 31, 3, 1, 4, 126, .null)] = true := by decide +kernel
theorem dc_X1_acceptsColon_32 : decode (AM.bytes M_X1_acceptsColon) 32 = .ok (.ifCond .ne 11, 3) := by decide +kernel
theorem g_X1_acceptsColon_43_6 : ab_oks M_X1_acceptsColon [(43, .aload_n 0, 1, 0, 0, 0, .null), (44, .aload_n 0, 1, 0, 0, 0, .null), (45, .getfield 34, 3, 1, 5, 127, .null), (48, .putfield 43, 3, 1, 8, 130, .null), (51, .aload_n 0, 1, 0, 0, 0, .null), (52, .iconst 2, 1, 0, 0, 0, .int (nI (2)))] = true := by decide +kernel
theorem dc_X1_acceptsColon_53 : decode (AM.bytes M_X1_acceptsColon) 53 = .ok (.invokevirtual 46, 3) := by decide +kernel
theorem g_X1_acceptsColon_56_1 : ab_oks M_X1_acceptsColon [(56, .iconst 1, 1, 0, 0, 0, .int (nI (1)))] = true := by decide +kernel
theorem dc_X1_acceptsColon_57 : decode (AM.bytes M_X1_acceptsColon) 57 = .ok (.ireturn, 1) := by decide +kernel
theorem g_X1_acceptsColon_35_10 : ab_oks M_X1_acceptsColon [(35, .aload_n 0, 1, 0, 0, 0, .null), (36, .aload_n 0, 1, 0, 0, 0, .null), (37, .getfield 34, 3, 1, 5, 127, .null), (40, .putfield 40, 3, 1, 7, 129, .null), (43, .aload_n 0, 1, 0, 0, 0, .null), (44, .aload_n 0, 1, 0, 0, 0, .null), (45, .getfield 34, 3, 1, 5, 127, .null), (48, .putfield 43, 3, 1, 8, 130, .null), (51, .aload_n 0, 1, 0, 0, 0, .null), (52, .iconst 2, 1, 0, 0, 0, .int (nI (2)))] = true := by decide +kernel
set_option maxRecDepth 100000 in
set_option maxHeartbeats 4000000 in
theorem s_1acceptsColon {E : AE} (d : Nat)  {o0 a0 p0 m0 u0 l0 : List AC} {tc tp : Nat → Int32} {tl_ tn trd tv tdg tf tla : Int32} : CT E M_X1_acceptsColon (d + 1) [.ref 8192] (hp o0 a0 (te_ tc tp tl_ tn trd tv tdg tf tla) p0 m0 u0 l0) (.inl (some (.int (F_1acceptsColon trd tv tdg tf)))) (hp o0 a0 (te_ tc tp tl_ tn (F_1acceptsColon_trd trd tv tdg tf) (F_1acceptsColon_tv trd tv tdg tf) (F_1acceptsColon_tdg trd tv tdg tf) (F_1acceptsColon_tf trd tv tdg tf) (F_1acceptsColon_tla trd tv tdg tf tla)) p0 m0 u0 l0) 0 0 := by
  refine CT.of (L := [some (.ref 8192)]) rfl rfl ?_
  refine AR.run g_X1_acceptsColon_0_3 5 [some (.ref 8192)] [.int (nI (2)), .int (trd)] _ [] rfl trivial ?_
  refine AR.eq2 (tgt := 26) dc_X1_acceptsColon_5 (by decide) (fun c5_1 => ?_) (fun c5_1 => ?_)
  · refine AR.run g_X1_acceptsColon_26_1 27 [some (.ref 8192)] [.int (nI (0))] _ [] rfl trivial ?_
    have e2_0 : F_1acceptsColon trd tv tdg tf = (nI (0)) := by rw [F_1acceptsColon, if_pos c5_1]
    have e2_1 : F_1acceptsColon_trd trd tv tdg tf = trd := by rw [F_1acceptsColon_trd, if_pos c5_1]
    have e2_2 : F_1acceptsColon_tv trd tv tdg tf = tv := by rw [F_1acceptsColon_tv, if_pos c5_1]
    have e2_3 : F_1acceptsColon_tdg trd tv tdg tf = tdg := by rw [F_1acceptsColon_tdg, if_pos c5_1]
    have e2_4 : F_1acceptsColon_tf trd tv tdg tf = tf := by rw [F_1acceptsColon_tf, if_pos c5_1]
    have e2_5 : F_1acceptsColon_tla trd tv tdg tf tla = tla := by rw [F_1acceptsColon_tla, if_pos c5_1]
    exact AR.retZ dc_X1_acceptsColon_27 rfl (Or.inl rfl) e2_0.symm (by rw [e2_1, e2_2, e2_3, e2_4, e2_5])
  · refine AR.run g_X1_acceptsColon_8_2 12 [some (.ref 8192)] [.int (tdg)] _ [] rfl trivial ?_
    refine AR.eq (tgt := 26) dc_X1_acceptsColon_12 (by decide) (fun c12_3 => ?_) (fun c12_3 => ?_)
    · refine AR.run g_X1_acceptsColon_26_1 27 [some (.ref 8192)] [.int (nI (0))] _ [] rfl trivial ?_
      have e4_0 : F_1acceptsColon trd tv tdg tf = (nI (0)) := by rw [F_1acceptsColon, if_neg c5_1, if_pos c12_3]
      have e4_1 : F_1acceptsColon_trd trd tv tdg tf = trd := by rw [F_1acceptsColon_trd, if_neg c5_1, if_pos c12_3]
      have e4_2 : F_1acceptsColon_tv trd tv tdg tf = tv := by rw [F_1acceptsColon_tv, if_neg c5_1, if_pos c12_3]
      have e4_3 : F_1acceptsColon_tdg trd tv tdg tf = tdg := by rw [F_1acceptsColon_tdg, if_neg c5_1, if_pos c12_3]
      have e4_4 : F_1acceptsColon_tf trd tv tdg tf = tf := by rw [F_1acceptsColon_tf, if_neg c5_1, if_pos c12_3]
      have e4_5 : F_1acceptsColon_tla trd tv tdg tf tla = tla := by rw [F_1acceptsColon_tla, if_neg c5_1, if_pos c12_3]
      exact AR.retZ dc_X1_acceptsColon_27 rfl (Or.inl rfl) e4_0.symm (by rw [e4_1, e4_2, e4_3, e4_4, e4_5])
    · refine AR.run g_X1_acceptsColon_15_3 20 [some (.ref 8192)] [.ref 8192, .int (tv)] _ [] rfl trivial ?_
      refine AR.callV1 (8192) [] [.int (tv)] lk_1_80 dc_X1_acceptsColon_20 rfl rfl (s_1leastNumber _  ) (by first | rfl | (simp only [nI_add, pk_mul]; first | done | rfl)) rfl ?_
      refine AR.ge2 (tgt := 28) dc_X1_acceptsColon_23 (by decide) (fun c23_5 => ?_) (fun c23_5 => ?_)
      · refine AR.run g_X1_acceptsColon_28_2 32 [some (.ref 8192)] [.int (trd)] _ [] rfl trivial ?_
        refine AR.ne (tgt := 43) dc_X1_acceptsColon_32 (by decide) (fun c32_6 => ?_) (fun c32_6 => ?_)
        · refine AR.run g_X1_acceptsColon_43_6 53 [some (.ref 8192)] [.int (nI (2)), .ref 8192] (hp o0 a0 (te_ tc tp tl_ tn trd tv tdg tf tv) p0 m0 u0 l0) [] rfl trivial ?_
          refine AR.callV0 (8192) [.int (nI (2))] [] lk_1_46 dc_X1_acceptsColon_53 rfl rfl (s_1begin _ (nI (2)) ) (by first | rfl | (simp only [nI_add, pk_mul]; first | done | rfl)) rfl ?_
          refine AR.run g_X1_acceptsColon_56_1 57 [some (.ref 8192)] [.int (nI (1))] _ [] rfl trivial ?_
          have e7_0 : F_1acceptsColon trd tv tdg tf = (nI (1)) := by rw [F_1acceptsColon, if_neg c5_1, if_neg c12_3, if_pos c23_5, if_neg c32_6]
          have e7_1 : F_1acceptsColon_trd trd tv tdg tf = (F_1begin_trd (nI (2))) := by rw [F_1acceptsColon_trd, if_neg c5_1, if_neg c12_3, if_pos c23_5, if_neg c32_6]
          have e7_2 : F_1acceptsColon_tv trd tv tdg tf = F_1begin_tv := by rw [F_1acceptsColon_tv, if_neg c5_1, if_neg c12_3, if_pos c23_5, if_neg c32_6]
          have e7_3 : F_1acceptsColon_tdg trd tv tdg tf = F_1begin_tdg := by rw [F_1acceptsColon_tdg, if_neg c5_1, if_neg c12_3, if_pos c23_5, if_neg c32_6]
          have e7_4 : F_1acceptsColon_tf trd tv tdg tf = tf := by rw [F_1acceptsColon_tf, if_neg c5_1, if_neg c12_3, if_pos c23_5, if_neg c32_6]
          have e7_5 : F_1acceptsColon_tla trd tv tdg tf tla = tv := by rw [F_1acceptsColon_tla, if_neg c5_1, if_neg c12_3, if_pos c23_5, if_neg c32_6]
          exact AR.retZ dc_X1_acceptsColon_57 rfl (Or.inr rfl) e7_0.symm (by rw [e7_1, e7_2, e7_3, e7_4, e7_5])
        · refine AR.run g_X1_acceptsColon_35_10 53 [some (.ref 8192)] [.int (nI (2)), .ref 8192] (hp o0 a0 (te_ tc tp tl_ tn trd tv tdg tv tv) p0 m0 u0 l0) [] rfl trivial ?_
          refine AR.callV0 (8192) [.int (nI (2))] [] lk_1_46 dc_X1_acceptsColon_53 rfl rfl (s_1begin _ (nI (2)) ) (by first | rfl | (simp only [nI_add, pk_mul]; first | done | rfl)) rfl ?_
          refine AR.run g_X1_acceptsColon_56_1 57 [some (.ref 8192)] [.int (nI (1))] _ [] rfl trivial ?_
          have e8_0 : F_1acceptsColon trd tv tdg tf = (nI (1)) := by rw [F_1acceptsColon, if_neg c5_1, if_neg c12_3, if_pos c23_5, if_pos c32_6]
          have e8_1 : F_1acceptsColon_trd trd tv tdg tf = (F_1begin_trd (nI (2))) := by rw [F_1acceptsColon_trd, if_neg c5_1, if_neg c12_3, if_pos c23_5, if_pos c32_6]
          have e8_2 : F_1acceptsColon_tv trd tv tdg tf = F_1begin_tv := by rw [F_1acceptsColon_tv, if_neg c5_1, if_neg c12_3, if_pos c23_5, if_pos c32_6]
          have e8_3 : F_1acceptsColon_tdg trd tv tdg tf = F_1begin_tdg := by rw [F_1acceptsColon_tdg, if_neg c5_1, if_neg c12_3, if_pos c23_5, if_pos c32_6]
          have e8_4 : F_1acceptsColon_tf trd tv tdg tf = tv := by rw [F_1acceptsColon_tf, if_neg c5_1, if_neg c12_3, if_pos c23_5, if_pos c32_6]
          have e8_5 : F_1acceptsColon_tla trd tv tdg tf tla = tv := by rw [F_1acceptsColon_tla, if_neg c5_1, if_neg c12_3, if_pos c23_5, if_pos c32_6]
          exact AR.retZ dc_X1_acceptsColon_57 rfl (Or.inr rfl) e8_0.symm (by rw [e8_1, e8_2, e8_3, e8_4, e8_5])
      · refine AR.run g_X1_acceptsColon_26_1 27 [some (.ref 8192)] [.int (nI (0))] _ [] rfl trivial ?_
        have e9_0 : F_1acceptsColon trd tv tdg tf = (nI (0)) := by rw [F_1acceptsColon, if_neg c5_1, if_neg c12_3, if_neg c23_5]
        have e9_1 : F_1acceptsColon_trd trd tv tdg tf = trd := by rw [F_1acceptsColon_trd, if_neg c5_1, if_neg c12_3, if_neg c23_5]
        have e9_2 : F_1acceptsColon_tv trd tv tdg tf = tv := by rw [F_1acceptsColon_tv, if_neg c5_1, if_neg c12_3, if_neg c23_5]
        have e9_3 : F_1acceptsColon_tdg trd tv tdg tf = tdg := by rw [F_1acceptsColon_tdg, if_neg c5_1, if_neg c12_3, if_neg c23_5]
        have e9_4 : F_1acceptsColon_tf trd tv tdg tf = tf := by rw [F_1acceptsColon_tf, if_neg c5_1, if_neg c12_3, if_neg c23_5]
        have e9_5 : F_1acceptsColon_tla trd tv tdg tf tla = tla := by rw [F_1acceptsColon_tla, if_neg c5_1, if_neg c12_3, if_neg c23_5]
        exact AR.retZ dc_X1_acceptsColon_27 rfl (Or.inl rfl) e9_0.symm (by rw [e9_1, e9_2, e9_3, e9_4, e9_5])
def F_1acceptsComma (trd : Int32) (tdg : Int32) : Int32 := if (F_1isComplete trd tdg) = 0 then (nI (0)) else (nI (1))
theorem F_1acceptsComma_01 (trd : Int32) (tdg : Int32) : F_1acceptsComma trd tdg = nI 0 ∨ F_1acceptsComma trd tdg = nI 1 := by
  unfold F_1acceptsComma
  (repeat' split) <;> first | exact Or.inl rfl | exact Or.inr rfl | exact wi01 _ _ _
def F_1acceptsComma_trd (trd : Int32) (tdg : Int32) : Int32 := if (F_1isComplete trd tdg) = 0 then trd else (F_1begin_trd (nI (0)))
def F_1acceptsComma_tv (trd : Int32) (tv : Int32) (tdg : Int32) : Int32 := if (F_1isComplete trd tdg) = 0 then tv else F_1begin_tv
def F_1acceptsComma_tdg (trd : Int32) (tdg : Int32) : Int32 := if (F_1isComplete trd tdg) = 0 then tdg else F_1begin_tdg
theorem g_X1_acceptsComma_0_1 : ab_oks M_X1_acceptsComma [(0, .aload_n 0, 1, 0, 0, 0, .null)] = true := by decide +kernel
theorem lk_1_84 : ab_lkV "LeafCradles$BarText" 84 M_X1_isComplete 0 [728, 729, 730, 33, 731] = true := by decide +kernel
theorem dc_X1_acceptsComma_1 : decode (AM.bytes M_X1_acceptsComma) 1 = .ok (.invokevirtual 84, 3) := by decide +kernel
theorem dc_X1_acceptsComma_4 : decode (AM.bytes M_X1_acceptsComma) 4 = .ok (.ifCond .ne 5, 3) := by decide +kernel
theorem g_X1_acceptsComma_9_2 : ab_oks M_X1_acceptsComma [(9, .aload_n 0, 1, 0, 0, 0, .null), (10, .iconst 0, 1, 0, 0, 0, .int (nI (0)))] = true := by decide +kernel
theorem dc_X1_acceptsComma_11 : decode (AM.bytes M_X1_acceptsComma) 11 = .ok (.invokevirtual 46, 3) := by decide +kernel
theorem g_X1_acceptsComma_14_1 : ab_oks M_X1_acceptsComma [(14, .iconst 1, 1, 0, 0, 0, .int (nI (1)))] = true := by decide +kernel
theorem dc_X1_acceptsComma_15 : decode (AM.bytes M_X1_acceptsComma) 15 = .ok (.ireturn, 1) := by decide +kernel
theorem g_X1_acceptsComma_7_1 : ab_oks M_X1_acceptsComma [(7, .iconst 0, 1, 0, 0, 0, .int (nI (0)))] = true := by decide +kernel
theorem dc_X1_acceptsComma_8 : decode (AM.bytes M_X1_acceptsComma) 8 = .ok (.ireturn, 1) := by decide +kernel
set_option maxRecDepth 100000 in
set_option maxHeartbeats 4000000 in
theorem s_1acceptsComma {E : AE} (d : Nat)  {o0 a0 p0 m0 u0 l0 : List AC} {tc tp : Nat → Int32} {tl_ tn trd tv tdg tf tla : Int32} : CT E M_X1_acceptsComma (d + 1) [.ref 8192] (hp o0 a0 (te_ tc tp tl_ tn trd tv tdg tf tla) p0 m0 u0 l0) (.inl (some (.int (F_1acceptsComma trd tdg)))) (hp o0 a0 (te_ tc tp tl_ tn (F_1acceptsComma_trd trd tdg) (F_1acceptsComma_tv trd tv tdg) (F_1acceptsComma_tdg trd tdg) tf tla) p0 m0 u0 l0) 0 0 := by
  refine CT.of (L := [some (.ref 8192)]) rfl rfl ?_
  refine AR.run g_X1_acceptsComma_0_1 1 [some (.ref 8192)] [.ref 8192] _ [] rfl trivial ?_
  refine AR.callV1 (8192) [] [] lk_1_84 dc_X1_acceptsComma_1 rfl rfl (s_1isComplete _  ) (by first | rfl | (simp only [nI_add, pk_mul]; first | done | rfl)) rfl ?_
  refine AR.ne (tgt := 9) dc_X1_acceptsComma_4 (by decide) (fun c4_1 => ?_) (fun c4_1 => ?_)
  · refine AR.run g_X1_acceptsComma_9_2 11 [some (.ref 8192)] [.int (nI (0)), .ref 8192] _ [] rfl trivial ?_
    refine AR.callV0 (8192) [.int (nI (0))] [] lk_1_46 dc_X1_acceptsComma_11 rfl rfl (s_1begin _ (nI (0)) ) (by first | rfl | (simp only [nI_add, pk_mul]; first | done | rfl)) rfl ?_
    refine AR.run g_X1_acceptsComma_14_1 15 [some (.ref 8192)] [.int (nI (1))] _ [] rfl trivial ?_
    have e2_0 : F_1acceptsComma trd tdg = (nI (1)) := by rw [F_1acceptsComma, if_neg c4_1]
    have e2_1 : F_1acceptsComma_trd trd tdg = (F_1begin_trd (nI (0))) := by rw [F_1acceptsComma_trd, if_neg c4_1]
    have e2_2 : F_1acceptsComma_tv trd tv tdg = F_1begin_tv := by rw [F_1acceptsComma_tv, if_neg c4_1]
    have e2_3 : F_1acceptsComma_tdg trd tdg = F_1begin_tdg := by rw [F_1acceptsComma_tdg, if_neg c4_1]
    exact AR.retZ dc_X1_acceptsComma_15 rfl (Or.inr rfl) e2_0.symm (by rw [e2_1, e2_2, e2_3])
  · refine AR.run g_X1_acceptsComma_7_1 8 [some (.ref 8192)] [.int (nI (0))] _ [] rfl trivial ?_
    have e3_0 : F_1acceptsComma trd tdg = (nI (0)) := by rw [F_1acceptsComma, if_pos c4_1]
    have e3_1 : F_1acceptsComma_trd trd tdg = trd := by rw [F_1acceptsComma_trd, if_pos c4_1]
    have e3_2 : F_1acceptsComma_tv trd tv tdg = tv := by rw [F_1acceptsComma_tv, if_pos c4_1]
    have e3_3 : F_1acceptsComma_tdg trd tdg = tdg := by rw [F_1acceptsComma_tdg, if_pos c4_1]
    exact AR.retZ dc_X1_acceptsComma_8 rfl (Or.inl rfl) e3_0.symm (by rw [e3_1, e3_2, e3_3])
def F_1acceptsDigit (x : Int32) (trd : Int32) (tv : Int32) (tdg : Int32) (tf : Int32) : Int32 := if tdg ≤ 0 then if (F_1beginsNumber ((tv * (nI (10))) + x) (F_1leastNumber trd tf) (F_1greatestNumber trd)) = 0 then (nI (0)) else if (F_1isComplete trd (tdg + (nI (1)))) = 0 then (nI (1)) else (nI (1)) else if tv = 0 then (nI (0)) else if (F_1beginsNumber ((tv * (nI (10))) + x) (F_1leastNumber trd tf) (F_1greatestNumber trd)) = 0 then (nI (0)) else if (F_1isComplete trd (tdg + (nI (1)))) = 0 then (nI (1)) else (nI (1))
theorem F_1acceptsDigit_01 (x : Int32) (trd : Int32) (tv : Int32) (tdg : Int32) (tf : Int32) : F_1acceptsDigit x trd tv tdg tf = nI 0 ∨ F_1acceptsDigit x trd tv tdg tf = nI 1 := by
  unfold F_1acceptsDigit
  (repeat' split) <;> first | exact Or.inl rfl | exact Or.inr rfl | exact wi01 _ _ _
def F_1acceptsDigit_tp (x : Int32) (tp : Nat → Int32) (tn : Int32) (trd : Int32) (tv : Int32) (tdg : Int32) (tf : Int32) (tla : Int32) : Nat → Int32 := if tdg ≤ 0 then if (F_1beginsNumber ((tv * (nI (10))) + x) (F_1leastNumber trd tf) (F_1greatestNumber trd)) = 0 then tp else if (F_1isComplete trd (tdg + (nI (1)))) = 0 then tp else (F_1keepPart_tp tp tn ((tv * (nI (10))) + x) tf tla) else if tv = 0 then tp else if (F_1beginsNumber ((tv * (nI (10))) + x) (F_1leastNumber trd tf) (F_1greatestNumber trd)) = 0 then tp else if (F_1isComplete trd (tdg + (nI (1)))) = 0 then tp else (F_1keepPart_tp tp tn ((tv * (nI (10))) + x) tf tla)
def F_1acceptsDigit_tn (x : Int32) (tn : Int32) (trd : Int32) (tv : Int32) (tdg : Int32) (tf : Int32) : Int32 := if tdg ≤ 0 then if (F_1beginsNumber ((tv * (nI (10))) + x) (F_1leastNumber trd tf) (F_1greatestNumber trd)) = 0 then tn else if (F_1isComplete trd (tdg + (nI (1)))) = 0 then tn else (F_1keepPart_tn tn) else if tv = 0 then tn else if (F_1beginsNumber ((tv * (nI (10))) + x) (F_1leastNumber trd tf) (F_1greatestNumber trd)) = 0 then tn else if (F_1isComplete trd (tdg + (nI (1)))) = 0 then tn else (F_1keepPart_tn tn)
def F_1acceptsDigit_tv (x : Int32) (trd : Int32) (tv : Int32) (tdg : Int32) (tf : Int32) : Int32 := if tdg ≤ 0 then if (F_1beginsNumber ((tv * (nI (10))) + x) (F_1leastNumber trd tf) (F_1greatestNumber trd)) = 0 then tv else if (F_1isComplete trd (tdg + (nI (1)))) = 0 then ((tv * (nI (10))) + x) else ((tv * (nI (10))) + x) else if tv = 0 then tv else if (F_1beginsNumber ((tv * (nI (10))) + x) (F_1leastNumber trd tf) (F_1greatestNumber trd)) = 0 then tv else if (F_1isComplete trd (tdg + (nI (1)))) = 0 then ((tv * (nI (10))) + x) else ((tv * (nI (10))) + x)
def F_1acceptsDigit_tdg (x : Int32) (trd : Int32) (tv : Int32) (tdg : Int32) (tf : Int32) : Int32 := if tdg ≤ 0 then if (F_1beginsNumber ((tv * (nI (10))) + x) (F_1leastNumber trd tf) (F_1greatestNumber trd)) = 0 then tdg else if (F_1isComplete trd (tdg + (nI (1)))) = 0 then (tdg + (nI (1))) else (tdg + (nI (1))) else if tv = 0 then tdg else if (F_1beginsNumber ((tv * (nI (10))) + x) (F_1leastNumber trd tf) (F_1greatestNumber trd)) = 0 then tdg else if (F_1isComplete trd (tdg + (nI (1)))) = 0 then (tdg + (nI (1))) else (tdg + (nI (1)))
theorem g_X1_acceptsDigit_0_2 : ab_oks M_X1_acceptsDigit [(0, .aload_n 0, 1, 0, 0, 0, .null), (1, .getfield 37, 3, 1, 6, 128, .null)] = true := by decide +kernel
theorem dc_X1_acceptsDigit_4 : decode (AM.bytes M_X1_acceptsDigit) 4 = .ok (.ifCond .le 14, 3) := by decide +kernel
theorem g_X1_acceptsDigit_18_10 : ab_oks M_X1_acceptsDigit [(18, .iconst 0, 1, 0, 0, 0, .int (nI (0))), (19, .istore_n 2, 1, 2, 0, 0, .null), (20, .aload_n 0, 1, 0, 0, 0, .null), (21, .getfield 34, 3, 1, 5, 127, .null), (24, .bipush 10, 2, 0, 0, 0, .int (nI (10))), (26, .imul, 1, 0, 0, 0, .null), (27, .iload_n 1, 1, 1, 0, 0, .null), (28, .iadd, 1, 0, 0, 0, .null), (29, .istore_n 3, 1, 3, 0, 0, .null), (30, .iload_n 2, 1, 2, 0, 0, .null)] = true := by decide +kernel
theorem dc_X1_acceptsDigit_31 : decode (AM.bytes M_X1_acceptsDigit) 31 = .ok (.ifCond .ne 18, 3) := by decide +kernel
theorem g_X1_acceptsDigit_34_2 : ab_oks M_X1_acceptsDigit [(34, .iload_n 3, 1, 3, 0, 0, .null), (35, .aload_n 0, 1, 0, 0, 0, .null)] = true := by decide +kernel
theorem dc_X1_acceptsDigit_36 : decode (AM.bytes M_X1_acceptsDigit) 36 = .ok (.invokevirtual 80, 3) := by decide +kernel
theorem g_X1_acceptsDigit_39_1 : ab_oks M_X1_acceptsDigit [(39, .aload_n 0, 1, 0, 0, 0, .null)] = true := by decide +kernel
theorem lk_1_87 : ab_lkV "LeafCradles$BarText" 87 M_X1_greatestNumber 0 [736, 738, 26, 33, 739] = true := by decide +kernel
theorem dc_X1_acceptsDigit_40 : decode (AM.bytes M_X1_acceptsDigit) 40 = .ok (.invokevirtual 87, 3) := by decide +kernel
theorem lk_1_90 : ab_lkS "LeafCradles$BarText" 90 M_X1_beginsNumber 3 [740, 741, 33, 742] = true := by decide +kernel
theorem dc_X1_acceptsDigit_43 : decode (AM.bytes M_X1_acceptsDigit) 43 = .ok (.invokestatic 90, 3) := by decide +kernel
theorem dc_X1_acceptsDigit_46 : decode (AM.bytes M_X1_acceptsDigit) 46 = .ok (.ifCond .ne 5, 3) := by decide +kernel
theorem g_X1_acceptsDigit_51_10 : ab_oks M_X1_acceptsDigit [(51, .aload_n 0, 1, 0, 0, 0, .null), (52, .iload_n 3, 1, 3, 0, 0, .null), (53, .putfield 34, 3, 1, 5, 127, .null), (56, .aload_n 0, 1, 0, 0, 0, .null), (57, .dup, 1, 0, 0, 0, .null), (58, .getfield 37, 3, 1, 6, 128, .null), (61, .iconst 1, 1, 0, 0, 0, .int (nI (1))), (62, .iadd, 1, 0, 0, 0, .null), (63, .putfield 37, 3, 1, 6, 128, .null), (66, .aload_n 0, 1, 0, 0, 0, .null)] = true := by decide +kernel
theorem dc_X1_acceptsDigit_67 : decode (AM.bytes M_X1_acceptsDigit) 67 = .ok (.invokevirtual 84, 3) := by decide +kernel
theorem dc_X1_acceptsDigit_70 : decode (AM.bytes M_X1_acceptsDigit) 70 = .ok (.ifCond .eq 7, 3) := by decide +kernel
theorem g_X1_acceptsDigit_77_1 : ab_oks M_X1_acceptsDigit [(77, .iconst 1, 1, 0, 0, 0, .int (nI (1)))] = true := by decide +kernel
theorem dc_X1_acceptsDigit_78 : decode (AM.bytes M_X1_acceptsDigit) 78 = .ok (.ireturn, 1) := by decide +kernel
theorem g_X1_acceptsDigit_73_1 : ab_oks M_X1_acceptsDigit [(73, .aload_n 0, 1, 0, 0, 0, .null)] = true := by decide +kernel
theorem lk_1_94 : ab_lkV "LeafCradles$BarText" 94 M_X1_keepPart 0 [743, 745, 27, 33, 746] = true := by decide +kernel
theorem dc_X1_acceptsDigit_74 : decode (AM.bytes M_X1_acceptsDigit) 74 = .ok (.invokevirtual 94, 3) := by decide +kernel
theorem g_X1_acceptsDigit_49_1 : ab_oks M_X1_acceptsDigit [(49, .iconst 0, 1, 0, 0, 0, .int (nI (0)))] = true := by decide +kernel
theorem dc_X1_acceptsDigit_50 : decode (AM.bytes M_X1_acceptsDigit) 50 = .ok (.ireturn, 1) := by decide +kernel
theorem g_X1_acceptsDigit_7_2 : ab_oks M_X1_acceptsDigit [(7, .aload_n 0, 1, 0, 0, 0, .null), (8, .getfield 34, 3, 1, 5, 127, .null)] = true := by decide +kernel
theorem dc_X1_acceptsDigit_11 : decode (AM.bytes M_X1_acceptsDigit) 11 = .ok (.ifCond .ne 7, 3) := by decide +kernel
theorem g_X1_acceptsDigit_14_11 : ab_oks M_X1_acceptsDigit [(14, .iconst 1, 1, 0, 0, 0, .int (nI (1))), (15, .goto 4, 3, 19, 0, 0, .null), (19, .istore_n 2, 1, 2, 0, 0, .null), (20, .aload_n 0, 1, 0, 0, 0, .null), (21, .getfield 34, 3, 1, 5, 127, .null), (24, .bipush 10, 2, 0, 0, 0, .int (nI (10))), (26, .imul, 1, 0, 0, 0, .null), (27, .iload_n 1, 1, 1, 0, 0, .null), (28, .iadd, 1, 0, 0, 0, .null), (29, .istore_n 3, 1, 3, 0, 0, .null), (30, .iload_n 2, 1, 2, 0, 0, .null)] = true := by decide +kernel
set_option maxRecDepth 100000 in
set_option maxHeartbeats 4000000 in
theorem s_1acceptsDigit {E : AE} (d : Nat) (x : Int32)  {o0 a0 p0 m0 u0 l0 : List AC} {tc tp : Nat → Int32} {tl_ tn trd tv tdg tf tla : Int32} (htn : isN tn) (htb : tn.toNatClampNeg < 1000) : CT E M_X1_acceptsDigit (d + 2) [.ref 8192, .int (x)] (hp o0 a0 (te_ tc tp tl_ tn trd tv tdg tf tla) p0 m0 u0 l0) (.inl (some (.int (F_1acceptsDigit x trd tv tdg tf)))) (hp o0 a0 (te_ tc (F_1acceptsDigit_tp x tp tn trd tv tdg tf tla) tl_ (F_1acceptsDigit_tn x tn trd tv tdg tf) trd (F_1acceptsDigit_tv x trd tv tdg tf) (F_1acceptsDigit_tdg x trd tv tdg tf) tf tla) p0 m0 u0 l0) 0 0 := by
  refine CT.of (L := [some (.ref 8192), some (.int (x)), none, none]) rfl rfl ?_
  refine AR.run g_X1_acceptsDigit_0_2 4 [some (.ref 8192), some (.int (x)), none, none] [.int (tdg)] _ [] rfl trivial ?_
  refine AR.le (tgt := 18) dc_X1_acceptsDigit_4 (by decide) (fun c4_1 => ?_) (fun c4_1 => ?_)
  · refine AR.run g_X1_acceptsDigit_18_10 31 [some (.ref 8192), some (.int (x)), some (.int (nI (0))), some (.int ((tv * (nI (10))) + x))] [.int (nI (0))] _ [] rfl trivial ?_
    refine AR.neN (tgt := 49) (a := 0) dc_X1_acceptsDigit_31 (by decide) (by first | rfl | (simp only [nI_add, pk_mul]; first | done | rfl)) (by omega) (fun c31_2 => absurd c31_2 (by omega)) (fun c31_2 => ?_)
    refine AR.run g_X1_acceptsDigit_34_2 36 [some (.ref 8192), some (.int (x)), some (.int (nI (0))), some (.int ((tv * (nI (10))) + x))] [.ref 8192, .int ((tv * (nI (10))) + x)] _ [] rfl trivial ?_
    refine AR.callV1 (8192) [] [.int ((tv * (nI (10))) + x)] lk_1_80 dc_X1_acceptsDigit_36 rfl rfl (s_1leastNumber _  ) (by first | rfl | (simp only [nI_add, pk_mul]; first | done | rfl)) rfl ?_
    refine AR.run g_X1_acceptsDigit_39_1 40 [some (.ref 8192), some (.int (x)), some (.int (nI (0))), some (.int ((tv * (nI (10))) + x))] [.ref 8192, .int (F_1leastNumber trd tf), .int ((tv * (nI (10))) + x)] _ [] rfl trivial ?_
    refine AR.callV1 (8192) [] [.int (F_1leastNumber trd tf), .int ((tv * (nI (10))) + x)] lk_1_87 dc_X1_acceptsDigit_40 rfl rfl (s_1greatestNumber _  ) (by first | rfl | (simp only [nI_add, pk_mul]; first | done | rfl)) rfl ?_
    refine AR.callS1 [.int ((tv * (nI (10))) + x), .int (F_1leastNumber trd tf), .int (F_1greatestNumber trd)] [] lk_1_90 dc_X1_acceptsDigit_43 (s_1beginsNumber _ ((tv * (nI (10))) + x) (F_1leastNumber trd tf) (F_1greatestNumber trd) ) (by first | rfl | (simp only [nI_add, pk_mul]; first | done | rfl)) rfl ?_
    refine AR.ne (tgt := 51) dc_X1_acceptsDigit_46 (by decide) (fun c46_3 => ?_) (fun c46_3 => ?_)
    · refine AR.run g_X1_acceptsDigit_51_10 67 [some (.ref 8192), some (.int (x)), some (.int (nI (0))), some (.int ((tv * (nI (10))) + x))] [.ref 8192] (hp o0 a0 (te_ tc tp tl_ tn trd ((tv * (nI (10))) + x) (tdg + (nI (1))) tf tla) p0 m0 u0 l0) [] rfl trivial ?_
      refine AR.callV1 (8192) [] [] lk_1_84 dc_X1_acceptsDigit_67 rfl rfl (s_1isComplete _  ) (by first | rfl | (simp only [nI_add, pk_mul]; first | done | rfl)) rfl ?_
      refine AR.eq (tgt := 77) dc_X1_acceptsDigit_70 (by decide) (fun c70_4 => ?_) (fun c70_4 => ?_)
      · refine AR.run g_X1_acceptsDigit_77_1 78 [some (.ref 8192), some (.int (x)), some (.int (nI (0))), some (.int ((tv * (nI (10))) + x))] [.int (nI (1))] _ [] rfl trivial ?_
        have e5_0 : F_1acceptsDigit x trd tv tdg tf = (nI (1)) := by rw [F_1acceptsDigit, if_pos c4_1, if_neg c46_3, if_pos c70_4]
        have e5_1 : F_1acceptsDigit_tp x tp tn trd tv tdg tf tla = tp := by rw [F_1acceptsDigit_tp, if_pos c4_1, if_neg c46_3, if_pos c70_4]
        have e5_2 : F_1acceptsDigit_tn x tn trd tv tdg tf = tn := by rw [F_1acceptsDigit_tn, if_pos c4_1, if_neg c46_3, if_pos c70_4]
        have e5_3 : F_1acceptsDigit_tv x trd tv tdg tf = ((tv * (nI (10))) + x) := by rw [F_1acceptsDigit_tv, if_pos c4_1, if_neg c46_3, if_pos c70_4]
        have e5_4 : F_1acceptsDigit_tdg x trd tv tdg tf = (tdg + (nI (1))) := by rw [F_1acceptsDigit_tdg, if_pos c4_1, if_neg c46_3, if_pos c70_4]
        exact AR.retZ dc_X1_acceptsDigit_78 rfl (Or.inr rfl) e5_0.symm (by rw [e5_1, e5_2, e5_3, e5_4])
      · refine AR.run g_X1_acceptsDigit_73_1 74 [some (.ref 8192), some (.int (x)), some (.int (nI (0))), some (.int ((tv * (nI (10))) + x))] [.ref 8192] _ [] rfl trivial ?_
        refine AR.callV0 (8192) [] [] lk_1_94 dc_X1_acceptsDigit_74 rfl rfl (s_1keepPart _  (by assumption) (by omega)) (by first | rfl | (simp only [nI_add, pk_mul]; first | done | rfl)) rfl ?_
        refine AR.run g_X1_acceptsDigit_77_1 78 [some (.ref 8192), some (.int (x)), some (.int (nI (0))), some (.int ((tv * (nI (10))) + x))] [.int (nI (1))] _ [] rfl trivial ?_
        have e6_0 : F_1acceptsDigit x trd tv tdg tf = (nI (1)) := by rw [F_1acceptsDigit, if_pos c4_1, if_neg c46_3, if_neg c70_4]
        have e6_1 : F_1acceptsDigit_tp x tp tn trd tv tdg tf tla = (F_1keepPart_tp tp tn ((tv * (nI (10))) + x) tf tla) := by rw [F_1acceptsDigit_tp, if_pos c4_1, if_neg c46_3, if_neg c70_4]
        have e6_2 : F_1acceptsDigit_tn x tn trd tv tdg tf = (F_1keepPart_tn tn) := by rw [F_1acceptsDigit_tn, if_pos c4_1, if_neg c46_3, if_neg c70_4]
        have e6_3 : F_1acceptsDigit_tv x trd tv tdg tf = ((tv * (nI (10))) + x) := by rw [F_1acceptsDigit_tv, if_pos c4_1, if_neg c46_3, if_neg c70_4]
        have e6_4 : F_1acceptsDigit_tdg x trd tv tdg tf = (tdg + (nI (1))) := by rw [F_1acceptsDigit_tdg, if_pos c4_1, if_neg c46_3, if_neg c70_4]
        exact AR.retZ dc_X1_acceptsDigit_78 rfl (Or.inr rfl) e6_0.symm (by rw [e6_1, e6_2, e6_3, e6_4])
    · refine AR.run g_X1_acceptsDigit_49_1 50 [some (.ref 8192), some (.int (x)), some (.int (nI (0))), some (.int ((tv * (nI (10))) + x))] [.int (nI (0))] _ [] rfl trivial ?_
      have e7_0 : F_1acceptsDigit x trd tv tdg tf = (nI (0)) := by rw [F_1acceptsDigit, if_pos c4_1, if_pos c46_3]
      have e7_1 : F_1acceptsDigit_tp x tp tn trd tv tdg tf tla = tp := by rw [F_1acceptsDigit_tp, if_pos c4_1, if_pos c46_3]
      have e7_2 : F_1acceptsDigit_tn x tn trd tv tdg tf = tn := by rw [F_1acceptsDigit_tn, if_pos c4_1, if_pos c46_3]
      have e7_3 : F_1acceptsDigit_tv x trd tv tdg tf = tv := by rw [F_1acceptsDigit_tv, if_pos c4_1, if_pos c46_3]
      have e7_4 : F_1acceptsDigit_tdg x trd tv tdg tf = tdg := by rw [F_1acceptsDigit_tdg, if_pos c4_1, if_pos c46_3]
      exact AR.retZ dc_X1_acceptsDigit_50 rfl (Or.inl rfl) e7_0.symm (by rw [e7_1, e7_2, e7_3, e7_4])
  · refine AR.run g_X1_acceptsDigit_7_2 11 [some (.ref 8192), some (.int (x)), none, none] [.int (tv)] _ [] rfl trivial ?_
    refine AR.ne (tgt := 18) dc_X1_acceptsDigit_11 (by decide) (fun c11_8 => ?_) (fun c11_8 => ?_)
    · refine AR.run g_X1_acceptsDigit_18_10 31 [some (.ref 8192), some (.int (x)), some (.int (nI (0))), some (.int ((tv * (nI (10))) + x))] [.int (nI (0))] _ [] rfl trivial ?_
      refine AR.neN (tgt := 49) (a := 0) dc_X1_acceptsDigit_31 (by decide) (by first | rfl | (simp only [nI_add, pk_mul]; first | done | rfl)) (by omega) (fun c31_9 => absurd c31_9 (by omega)) (fun c31_9 => ?_)
      refine AR.run g_X1_acceptsDigit_34_2 36 [some (.ref 8192), some (.int (x)), some (.int (nI (0))), some (.int ((tv * (nI (10))) + x))] [.ref 8192, .int ((tv * (nI (10))) + x)] _ [] rfl trivial ?_
      refine AR.callV1 (8192) [] [.int ((tv * (nI (10))) + x)] lk_1_80 dc_X1_acceptsDigit_36 rfl rfl (s_1leastNumber _  ) (by first | rfl | (simp only [nI_add, pk_mul]; first | done | rfl)) rfl ?_
      refine AR.run g_X1_acceptsDigit_39_1 40 [some (.ref 8192), some (.int (x)), some (.int (nI (0))), some (.int ((tv * (nI (10))) + x))] [.ref 8192, .int (F_1leastNumber trd tf), .int ((tv * (nI (10))) + x)] _ [] rfl trivial ?_
      refine AR.callV1 (8192) [] [.int (F_1leastNumber trd tf), .int ((tv * (nI (10))) + x)] lk_1_87 dc_X1_acceptsDigit_40 rfl rfl (s_1greatestNumber _  ) (by first | rfl | (simp only [nI_add, pk_mul]; first | done | rfl)) rfl ?_
      refine AR.callS1 [.int ((tv * (nI (10))) + x), .int (F_1leastNumber trd tf), .int (F_1greatestNumber trd)] [] lk_1_90 dc_X1_acceptsDigit_43 (s_1beginsNumber _ ((tv * (nI (10))) + x) (F_1leastNumber trd tf) (F_1greatestNumber trd) ) (by first | rfl | (simp only [nI_add, pk_mul]; first | done | rfl)) rfl ?_
      refine AR.ne (tgt := 51) dc_X1_acceptsDigit_46 (by decide) (fun c46_10 => ?_) (fun c46_10 => ?_)
      · refine AR.run g_X1_acceptsDigit_51_10 67 [some (.ref 8192), some (.int (x)), some (.int (nI (0))), some (.int ((tv * (nI (10))) + x))] [.ref 8192] (hp o0 a0 (te_ tc tp tl_ tn trd ((tv * (nI (10))) + x) (tdg + (nI (1))) tf tla) p0 m0 u0 l0) [] rfl trivial ?_
        refine AR.callV1 (8192) [] [] lk_1_84 dc_X1_acceptsDigit_67 rfl rfl (s_1isComplete _  ) (by first | rfl | (simp only [nI_add, pk_mul]; first | done | rfl)) rfl ?_
        refine AR.eq (tgt := 77) dc_X1_acceptsDigit_70 (by decide) (fun c70_11 => ?_) (fun c70_11 => ?_)
        · refine AR.run g_X1_acceptsDigit_77_1 78 [some (.ref 8192), some (.int (x)), some (.int (nI (0))), some (.int ((tv * (nI (10))) + x))] [.int (nI (1))] _ [] rfl trivial ?_
          have e12_0 : F_1acceptsDigit x trd tv tdg tf = (nI (1)) := by rw [F_1acceptsDigit, if_neg c4_1, if_neg c11_8, if_neg c46_10, if_pos c70_11]
          have e12_1 : F_1acceptsDigit_tp x tp tn trd tv tdg tf tla = tp := by rw [F_1acceptsDigit_tp, if_neg c4_1, if_neg c11_8, if_neg c46_10, if_pos c70_11]
          have e12_2 : F_1acceptsDigit_tn x tn trd tv tdg tf = tn := by rw [F_1acceptsDigit_tn, if_neg c4_1, if_neg c11_8, if_neg c46_10, if_pos c70_11]
          have e12_3 : F_1acceptsDigit_tv x trd tv tdg tf = ((tv * (nI (10))) + x) := by rw [F_1acceptsDigit_tv, if_neg c4_1, if_neg c11_8, if_neg c46_10, if_pos c70_11]
          have e12_4 : F_1acceptsDigit_tdg x trd tv tdg tf = (tdg + (nI (1))) := by rw [F_1acceptsDigit_tdg, if_neg c4_1, if_neg c11_8, if_neg c46_10, if_pos c70_11]
          exact AR.retZ dc_X1_acceptsDigit_78 rfl (Or.inr rfl) e12_0.symm (by rw [e12_1, e12_2, e12_3, e12_4])
        · refine AR.run g_X1_acceptsDigit_73_1 74 [some (.ref 8192), some (.int (x)), some (.int (nI (0))), some (.int ((tv * (nI (10))) + x))] [.ref 8192] _ [] rfl trivial ?_
          refine AR.callV0 (8192) [] [] lk_1_94 dc_X1_acceptsDigit_74 rfl rfl (s_1keepPart _  (by assumption) (by omega)) (by first | rfl | (simp only [nI_add, pk_mul]; first | done | rfl)) rfl ?_
          refine AR.run g_X1_acceptsDigit_77_1 78 [some (.ref 8192), some (.int (x)), some (.int (nI (0))), some (.int ((tv * (nI (10))) + x))] [.int (nI (1))] _ [] rfl trivial ?_
          have e13_0 : F_1acceptsDigit x trd tv tdg tf = (nI (1)) := by rw [F_1acceptsDigit, if_neg c4_1, if_neg c11_8, if_neg c46_10, if_neg c70_11]
          have e13_1 : F_1acceptsDigit_tp x tp tn trd tv tdg tf tla = (F_1keepPart_tp tp tn ((tv * (nI (10))) + x) tf tla) := by rw [F_1acceptsDigit_tp, if_neg c4_1, if_neg c11_8, if_neg c46_10, if_neg c70_11]
          have e13_2 : F_1acceptsDigit_tn x tn trd tv tdg tf = (F_1keepPart_tn tn) := by rw [F_1acceptsDigit_tn, if_neg c4_1, if_neg c11_8, if_neg c46_10, if_neg c70_11]
          have e13_3 : F_1acceptsDigit_tv x trd tv tdg tf = ((tv * (nI (10))) + x) := by rw [F_1acceptsDigit_tv, if_neg c4_1, if_neg c11_8, if_neg c46_10, if_neg c70_11]
          have e13_4 : F_1acceptsDigit_tdg x trd tv tdg tf = (tdg + (nI (1))) := by rw [F_1acceptsDigit_tdg, if_neg c4_1, if_neg c11_8, if_neg c46_10, if_neg c70_11]
          exact AR.retZ dc_X1_acceptsDigit_78 rfl (Or.inr rfl) e13_0.symm (by rw [e13_1, e13_2, e13_3, e13_4])
      · refine AR.run g_X1_acceptsDigit_49_1 50 [some (.ref 8192), some (.int (x)), some (.int (nI (0))), some (.int ((tv * (nI (10))) + x))] [.int (nI (0))] _ [] rfl trivial ?_
        have e14_0 : F_1acceptsDigit x trd tv tdg tf = (nI (0)) := by rw [F_1acceptsDigit, if_neg c4_1, if_neg c11_8, if_pos c46_10]
        have e14_1 : F_1acceptsDigit_tp x tp tn trd tv tdg tf tla = tp := by rw [F_1acceptsDigit_tp, if_neg c4_1, if_neg c11_8, if_pos c46_10]
        have e14_2 : F_1acceptsDigit_tn x tn trd tv tdg tf = tn := by rw [F_1acceptsDigit_tn, if_neg c4_1, if_neg c11_8, if_pos c46_10]
        have e14_3 : F_1acceptsDigit_tv x trd tv tdg tf = tv := by rw [F_1acceptsDigit_tv, if_neg c4_1, if_neg c11_8, if_pos c46_10]
        have e14_4 : F_1acceptsDigit_tdg x trd tv tdg tf = tdg := by rw [F_1acceptsDigit_tdg, if_neg c4_1, if_neg c11_8, if_pos c46_10]
        exact AR.retZ dc_X1_acceptsDigit_50 rfl (Or.inl rfl) e14_0.symm (by rw [e14_1, e14_2, e14_3, e14_4])
    · refine AR.run g_X1_acceptsDigit_14_11 31 [some (.ref 8192), some (.int (x)), some (.int (nI (1))), some (.int ((tv * (nI (10))) + x))] [.int (nI (1))] _ [] rfl trivial ?_
      refine AR.neN (tgt := 49) (a := 1) dc_X1_acceptsDigit_31 (by decide) (by first | rfl | (simp only [nI_add, pk_mul]; first | done | rfl)) (by omega) (fun c31_15 => ?_) (fun c31_15 => absurd c31_15 (by omega))
      refine AR.run g_X1_acceptsDigit_49_1 50 [some (.ref 8192), some (.int (x)), some (.int (nI (1))), some (.int ((tv * (nI (10))) + x))] [.int (nI (0))] _ [] rfl trivial ?_
      have e16_0 : F_1acceptsDigit x trd tv tdg tf = (nI (0)) := by rw [F_1acceptsDigit, if_neg c4_1, if_pos c11_8]
      have e16_1 : F_1acceptsDigit_tp x tp tn trd tv tdg tf tla = tp := by rw [F_1acceptsDigit_tp, if_neg c4_1, if_pos c11_8]
      have e16_2 : F_1acceptsDigit_tn x tn trd tv tdg tf = tn := by rw [F_1acceptsDigit_tn, if_neg c4_1, if_pos c11_8]
      have e16_3 : F_1acceptsDigit_tv x trd tv tdg tf = tv := by rw [F_1acceptsDigit_tv, if_neg c4_1, if_pos c11_8]
      have e16_4 : F_1acceptsDigit_tdg x trd tv tdg tf = tdg := by rw [F_1acceptsDigit_tdg, if_neg c4_1, if_pos c11_8]
      exact AR.retZ dc_X1_acceptsDigit_50 rfl (Or.inl rfl) e16_0.symm (by rw [e16_1, e16_2, e16_3, e16_4])
def F_1accepts (c : Nat) (trd : Int32) (tv : Int32) (tdg : Int32) (tf : Int32) : Int32 := if c = 44 then (F_1acceptsComma trd tdg) else if c = 45 then (F_1acceptsDash trd tv tdg) else if c = 58 then (F_1acceptsColon trd tv tdg tf) else if c < 48 then (nI (0)) else if 57 < c then (nI (0)) else if (F_1acceptsDigit ((nI (c)) - (nI (48))) trd tv tdg tf) = 0 then (nI (0)) else (nI (1))
theorem F_1accepts_01 (c : Nat) (trd : Int32) (tv : Int32) (tdg : Int32) (tf : Int32) : F_1accepts c trd tv tdg tf = nI 0 ∨ F_1accepts c trd tv tdg tf = nI 1 := by
  unfold F_1accepts
  (repeat' split) <;> first | exact Or.inl rfl | exact Or.inr rfl | exact wi01 _ _ _ | apply F_1acceptsColon_01 | apply F_1acceptsComma_01 | apply F_1acceptsDash_01
def F_1accepts_tp (c : Nat) (tp : Nat → Int32) (tn : Int32) (trd : Int32) (tv : Int32) (tdg : Int32) (tf : Int32) (tla : Int32) : Nat → Int32 := if c = 44 then tp else if c = 45 then tp else if c = 58 then tp else if c < 48 then tp else if 57 < c then tp else if (F_1acceptsDigit ((nI (c)) - (nI (48))) trd tv tdg tf) = 0 then (F_1acceptsDigit_tp ((nI (c)) - (nI (48))) tp tn trd tv tdg tf tla) else (F_1acceptsDigit_tp ((nI (c)) - (nI (48))) tp tn trd tv tdg tf tla)
def F_1accepts_tn (c : Nat) (tn : Int32) (trd : Int32) (tv : Int32) (tdg : Int32) (tf : Int32) : Int32 := if c = 44 then tn else if c = 45 then tn else if c = 58 then tn else if c < 48 then tn else if 57 < c then tn else if (F_1acceptsDigit ((nI (c)) - (nI (48))) trd tv tdg tf) = 0 then (F_1acceptsDigit_tn ((nI (c)) - (nI (48))) tn trd tv tdg tf) else (F_1acceptsDigit_tn ((nI (c)) - (nI (48))) tn trd tv tdg tf)
def F_1accepts_trd (c : Nat) (trd : Int32) (tv : Int32) (tdg : Int32) (tf : Int32) : Int32 := if c = 44 then (F_1acceptsComma_trd trd tdg) else if c = 45 then (F_1acceptsDash_trd trd tv tdg) else if c = 58 then (F_1acceptsColon_trd trd tv tdg tf) else if c < 48 then trd else if 57 < c then trd else if (F_1acceptsDigit ((nI (c)) - (nI (48))) trd tv tdg tf) = 0 then trd else trd
def F_1accepts_tv (c : Nat) (trd : Int32) (tv : Int32) (tdg : Int32) (tf : Int32) : Int32 := if c = 44 then (F_1acceptsComma_tv trd tv tdg) else if c = 45 then (F_1acceptsDash_tv trd tv tdg) else if c = 58 then (F_1acceptsColon_tv trd tv tdg tf) else if c < 48 then tv else if 57 < c then tv else if (F_1acceptsDigit ((nI (c)) - (nI (48))) trd tv tdg tf) = 0 then (F_1acceptsDigit_tv ((nI (c)) - (nI (48))) trd tv tdg tf) else (F_1acceptsDigit_tv ((nI (c)) - (nI (48))) trd tv tdg tf)
def F_1accepts_tdg (c : Nat) (trd : Int32) (tv : Int32) (tdg : Int32) (tf : Int32) : Int32 := if c = 44 then (F_1acceptsComma_tdg trd tdg) else if c = 45 then (F_1acceptsDash_tdg trd tv tdg) else if c = 58 then (F_1acceptsColon_tdg trd tv tdg tf) else if c < 48 then tdg else if 57 < c then tdg else if (F_1acceptsDigit ((nI (c)) - (nI (48))) trd tv tdg tf) = 0 then (F_1acceptsDigit_tdg ((nI (c)) - (nI (48))) trd tv tdg tf) else (F_1acceptsDigit_tdg ((nI (c)) - (nI (48))) trd tv tdg tf)
def F_1accepts_tf (c : Nat) (trd : Int32) (tv : Int32) (tdg : Int32) (tf : Int32) : Int32 := if c = 44 then tf else if c = 45 then (F_1acceptsDash_tf trd tv tdg tf) else if c = 58 then (F_1acceptsColon_tf trd tv tdg tf) else if c < 48 then tf else if 57 < c then tf else if (F_1acceptsDigit ((nI (c)) - (nI (48))) trd tv tdg tf) = 0 then tf else tf
def F_1accepts_tla (c : Nat) (trd : Int32) (tv : Int32) (tdg : Int32) (tf : Int32) (tla : Int32) : Int32 := if c = 44 then tla else if c = 45 then tla else if c = 58 then (F_1acceptsColon_tla trd tv tdg tf tla) else if c < 48 then tla else if 57 < c then tla else if (F_1acceptsDigit ((nI (c)) - (nI (48))) trd tv tdg tf) = 0 then tla else tla
theorem g_X1_accepts_0_1 : ab_oks M_X1_accepts [(0, .iload_n 1, 1, 1, 0, 0, .null)] = true := by decide +kernel
theorem dc_X1_accepts_1 : decode (AM.bytes M_X1_accepts) 1 = .ok (.lookupswitch 50 #[(44, 45), (45, 35), (58, 40)], 35) := by decide +kernel
theorem g_X1_accepts_46_1 : ab_oks M_X1_accepts [(46, .aload_n 0, 1, 0, 0, 0, .null)] = true := by decide +kernel
theorem lk_1_74 : ab_lkV "LeafCradles$BarText" 74 M_X1_acceptsComma 0 [724, 726, 24, 33, 727] = true := by decide +kernel
theorem dc_X1_accepts_47 : decode (AM.bytes M_X1_accepts) 47 = .ok (.invokevirtual 74, 3) := by decide +kernel
theorem dc_X1_accepts_50 : decode (AM.bytes M_X1_accepts) 50 = .ok (.ireturn, 1) := by decide +kernel
theorem g_X1_accepts_36_1 : ab_oks M_X1_accepts [(36, .aload_n 0, 1, 0, 0, 0, .null)] = true := by decide +kernel
theorem lk_1_67 : ab_lkV "LeafCradles$BarText" 67 M_X1_acceptsDash 0 [712, 714, 21, 33, 715] = true := by decide +kernel
theorem dc_X1_accepts_37 : decode (AM.bytes M_X1_accepts) 37 = .ok (.invokevirtual 67, 3) := by decide +kernel
theorem dc_X1_accepts_40 : decode (AM.bytes M_X1_accepts) 40 = .ok (.ireturn, 1) := by decide +kernel
theorem g_X1_accepts_41_1 : ab_oks M_X1_accepts [(41, .aload_n 0, 1, 0, 0, 0, .null)] = true := by decide +kernel
theorem lk_1_71 : ab_lkV "LeafCradles$BarText" 71 M_X1_acceptsColon 0 [716, 718, 22, 33, 719] = true := by decide +kernel
theorem dc_X1_accepts_42 : decode (AM.bytes M_X1_accepts) 42 = .ok (.invokevirtual 71, 3) := by decide +kernel
theorem dc_X1_accepts_45 : decode (AM.bytes M_X1_accepts) 45 = .ok (.ireturn, 1) := by decide +kernel
theorem g_X1_accepts_51_2 : ab_oks M_X1_accepts [(51, .iload_n 1, 1, 1, 0, 0, .null), (52, .bipush 48, 2, 0, 0, 0, .int (nI (48)))] = true := by decide +kernel
theorem dc_X1_accepts_54 : decode (AM.bytes M_X1_accepts) 54 = .ok (.if_icmp .lt 24, 3) := by decide +kernel
theorem g_X1_accepts_78_1 : ab_oks M_X1_accepts [(78, .iconst 0, 1, 0, 0, 0, .int (nI (0)))] = true := by decide +kernel
theorem dc_X1_accepts_79 : decode (AM.bytes M_X1_accepts) 79 = .ok (.ireturn, 1) := by decide +kernel
theorem g_X1_accepts_57_2 : ab_oks M_X1_accepts [(57, .iload_n 1, 1, 1, 0, 0, .null), (58, .bipush 57, 2, 0, 0, 0, .int (nI (57)))] = true := by decide +kernel
theorem dc_X1_accepts_60 : decode (AM.bytes M_X1_accepts) 60 = .ok (.if_icmp .gt 18, 3) := by decide +kernel
theorem g_X1_accepts_63_4 : ab_oks M_X1_accepts [(63, .aload_n 0, 1, 0, 0, 0, .null), (64, .iload_n 1, 1, 1, 0, 0, .null), (65, .bipush 48, 2, 0, 0, 0, .int (nI (48))), (67, .isub, 1, 0, 0, 0, .null)] = true := by decide +kernel
theorem lk_1_77 : ab_lkV "LeafCradles$BarText" 77 M_X1_acceptsDigit 1 [732, 734, 25, 33, 735] = true := by decide +kernel
theorem dc_X1_accepts_68 : decode (AM.bytes M_X1_accepts) 68 = .ok (.invokevirtual 77, 3) := by decide +kernel
theorem dc_X1_accepts_71 : decode (AM.bytes M_X1_accepts) 71 = .ok (.ifCond .eq 7, 3) := by decide +kernel
theorem g_X1_accepts_74_2 : ab_oks M_X1_accepts [(74, .iconst 1, 1, 0, 0, 0, .int (nI (1))), (75, .goto 4, 3, 79, 0, 0, .null)] = true := by decide +kernel
set_option maxRecDepth 100000 in
set_option maxHeartbeats 4000000 in
theorem s_1accepts {E : AE} (d : Nat) (c : Nat)  {o0 a0 p0 m0 u0 l0 : List AC} {tc tp : Nat → Int32} {tl_ tn trd tv tdg tf tla : Int32} (hc : c < 1000) (htn : isN tn) (htb : tn.toNatClampNeg < 1000) : CT E M_X1_accepts (d + 3) [.ref 8192, .int (nI (c))] (hp o0 a0 (te_ tc tp tl_ tn trd tv tdg tf tla) p0 m0 u0 l0) (.inl (some (.int (F_1accepts c trd tv tdg tf)))) (hp o0 a0 (te_ tc (F_1accepts_tp c tp tn trd tv tdg tf tla) tl_ (F_1accepts_tn c tn trd tv tdg tf) (F_1accepts_trd c trd tv tdg tf) (F_1accepts_tv c trd tv tdg tf) (F_1accepts_tdg c trd tv tdg tf) (F_1accepts_tf c trd tv tdg tf) (F_1accepts_tla c trd tv tdg tf tla)) p0 m0 u0 l0) 0 0 := by
  refine CT.of (L := [some (.ref 8192), some (.int (nI (c)))]) rfl rfl ?_
  refine AR.run g_X1_accepts_0_1 1 [some (.ref 8192), some (.int (nI (c)))] [.int (nI (c))] _ [] rfl trivial ?_
  by_cases w1_1 : c = 44
  · refine AR.lswN (w := c) (tgt := 46) (off := 45) 44 dc_X1_accepts_1 (by first | rfl | (simp only [nI_add, pk_mul]; first | done | rfl)) w1_1 (by decide) (by decide) (by decide) (by decide) ?_
    refine AR.run g_X1_accepts_46_1 47 [some (.ref 8192), some (.int (nI (c)))] [.ref 8192] _ [] rfl trivial ?_
    refine AR.callV1 (8192) [] [] lk_1_74 dc_X1_accepts_47 rfl rfl (s_1acceptsComma _  ) (by first | rfl | (simp only [nI_add, pk_mul]; first | done | rfl)) rfl ?_
    have e2_0 : F_1accepts c trd tv tdg tf = (F_1acceptsComma trd tdg) := by rw [F_1accepts, if_pos w1_1]
    have e2_1 : F_1accepts_tp c tp tn trd tv tdg tf tla = tp := by rw [F_1accepts_tp, if_pos w1_1]
    have e2_2 : F_1accepts_tn c tn trd tv tdg tf = tn := by rw [F_1accepts_tn, if_pos w1_1]
    have e2_3 : F_1accepts_trd c trd tv tdg tf = (F_1acceptsComma_trd trd tdg) := by rw [F_1accepts_trd, if_pos w1_1]
    have e2_4 : F_1accepts_tv c trd tv tdg tf = (F_1acceptsComma_tv trd tv tdg) := by rw [F_1accepts_tv, if_pos w1_1]
    have e2_5 : F_1accepts_tdg c trd tv tdg tf = (F_1acceptsComma_tdg trd tdg) := by rw [F_1accepts_tdg, if_pos w1_1]
    have e2_6 : F_1accepts_tf c trd tv tdg tf = tf := by rw [F_1accepts_tf, if_pos w1_1]
    have e2_7 : F_1accepts_tla c trd tv tdg tf tla = tla := by rw [F_1accepts_tla, if_pos w1_1]
    exact AR.retZ dc_X1_accepts_50 rfl (by first | exact Or.inl rfl | exact Or.inr rfl | exact wi01 _ _ _ | apply F_0isFree_01 | apply F_0isGentleEnough_01 | apply F_0isInItsBox_01 | apply F_0isLargeEnough_01 | apply F_0isOpen_01 | apply F_0mayTakeBack_01 | apply F_1accepts_01 | apply F_1acceptsColon_01 | apply F_1acceptsComma_01 | apply F_1acceptsDash_01 | apply F_1acceptsDigit_01 | apply F_1isComplete_01) e2_0.symm (by rw [e2_1, e2_2, e2_3, e2_4, e2_5, e2_6, e2_7])
  · by_cases w1_3 : c = 45
    · refine AR.lswN (w := c) (tgt := 36) (off := 35) 45 dc_X1_accepts_1 (by first | rfl | (simp only [nI_add, pk_mul]; first | done | rfl)) w1_3 (by decide) (by decide) (by decide) (by decide) ?_
      refine AR.run g_X1_accepts_36_1 37 [some (.ref 8192), some (.int (nI (c)))] [.ref 8192] _ [] rfl trivial ?_
      refine AR.callV1 (8192) [] [] lk_1_67 dc_X1_accepts_37 rfl rfl (s_1acceptsDash _  ) (by first | rfl | (simp only [nI_add, pk_mul]; first | done | rfl)) rfl ?_
      have e4_0 : F_1accepts c trd tv tdg tf = (F_1acceptsDash trd tv tdg) := by rw [F_1accepts, if_neg w1_1, if_pos w1_3]
      have e4_1 : F_1accepts_tp c tp tn trd tv tdg tf tla = tp := by rw [F_1accepts_tp, if_neg w1_1, if_pos w1_3]
      have e4_2 : F_1accepts_tn c tn trd tv tdg tf = tn := by rw [F_1accepts_tn, if_neg w1_1, if_pos w1_3]
      have e4_3 : F_1accepts_trd c trd tv tdg tf = (F_1acceptsDash_trd trd tv tdg) := by rw [F_1accepts_trd, if_neg w1_1, if_pos w1_3]
      have e4_4 : F_1accepts_tv c trd tv tdg tf = (F_1acceptsDash_tv trd tv tdg) := by rw [F_1accepts_tv, if_neg w1_1, if_pos w1_3]
      have e4_5 : F_1accepts_tdg c trd tv tdg tf = (F_1acceptsDash_tdg trd tv tdg) := by rw [F_1accepts_tdg, if_neg w1_1, if_pos w1_3]
      have e4_6 : F_1accepts_tf c trd tv tdg tf = (F_1acceptsDash_tf trd tv tdg tf) := by rw [F_1accepts_tf, if_neg w1_1, if_pos w1_3]
      have e4_7 : F_1accepts_tla c trd tv tdg tf tla = tla := by rw [F_1accepts_tla, if_neg w1_1, if_pos w1_3]
      exact AR.retZ dc_X1_accepts_40 rfl (by first | exact Or.inl rfl | exact Or.inr rfl | exact wi01 _ _ _ | apply F_0isFree_01 | apply F_0isGentleEnough_01 | apply F_0isInItsBox_01 | apply F_0isLargeEnough_01 | apply F_0isOpen_01 | apply F_0mayTakeBack_01 | apply F_1accepts_01 | apply F_1acceptsColon_01 | apply F_1acceptsComma_01 | apply F_1acceptsDash_01 | apply F_1acceptsDigit_01 | apply F_1isComplete_01) e4_0.symm (by rw [e4_1, e4_2, e4_3, e4_4, e4_5, e4_6, e4_7])
    · by_cases w1_5 : c = 58
      · refine AR.lswN (w := c) (tgt := 41) (off := 40) 58 dc_X1_accepts_1 (by first | rfl | (simp only [nI_add, pk_mul]; first | done | rfl)) w1_5 (by decide) (by decide) (by decide) (by decide) ?_
        refine AR.run g_X1_accepts_41_1 42 [some (.ref 8192), some (.int (nI (c)))] [.ref 8192] _ [] rfl trivial ?_
        refine AR.callV1 (8192) [] [] lk_1_71 dc_X1_accepts_42 rfl rfl (s_1acceptsColon _  ) (by first | rfl | (simp only [nI_add, pk_mul]; first | done | rfl)) rfl ?_
        have e6_0 : F_1accepts c trd tv tdg tf = (F_1acceptsColon trd tv tdg tf) := by rw [F_1accepts, if_neg w1_1, if_neg w1_3, if_pos w1_5]
        have e6_1 : F_1accepts_tp c tp tn trd tv tdg tf tla = tp := by rw [F_1accepts_tp, if_neg w1_1, if_neg w1_3, if_pos w1_5]
        have e6_2 : F_1accepts_tn c tn trd tv tdg tf = tn := by rw [F_1accepts_tn, if_neg w1_1, if_neg w1_3, if_pos w1_5]
        have e6_3 : F_1accepts_trd c trd tv tdg tf = (F_1acceptsColon_trd trd tv tdg tf) := by rw [F_1accepts_trd, if_neg w1_1, if_neg w1_3, if_pos w1_5]
        have e6_4 : F_1accepts_tv c trd tv tdg tf = (F_1acceptsColon_tv trd tv tdg tf) := by rw [F_1accepts_tv, if_neg w1_1, if_neg w1_3, if_pos w1_5]
        have e6_5 : F_1accepts_tdg c trd tv tdg tf = (F_1acceptsColon_tdg trd tv tdg tf) := by rw [F_1accepts_tdg, if_neg w1_1, if_neg w1_3, if_pos w1_5]
        have e6_6 : F_1accepts_tf c trd tv tdg tf = (F_1acceptsColon_tf trd tv tdg tf) := by rw [F_1accepts_tf, if_neg w1_1, if_neg w1_3, if_pos w1_5]
        have e6_7 : F_1accepts_tla c trd tv tdg tf tla = (F_1acceptsColon_tla trd tv tdg tf tla) := by rw [F_1accepts_tla, if_neg w1_1, if_neg w1_3, if_pos w1_5]
        exact AR.retZ dc_X1_accepts_45 rfl (by first | exact Or.inl rfl | exact Or.inr rfl | exact wi01 _ _ _ | apply F_0isFree_01 | apply F_0isGentleEnough_01 | apply F_0isInItsBox_01 | apply F_0isLargeEnough_01 | apply F_0isOpen_01 | apply F_0mayTakeBack_01 | apply F_1accepts_01 | apply F_1acceptsColon_01 | apply F_1acceptsComma_01 | apply F_1acceptsDash_01 | apply F_1acceptsDigit_01 | apply F_1isComplete_01) e6_0.symm (by rw [e6_1, e6_2, e6_3, e6_4, e6_5, e6_6, e6_7])
      · refine AR.lswdN (w := c) (tgt := 51) dc_X1_accepts_1 (by first | rfl | (simp only [nI_add, pk_mul]; first | done | rfl)) (by omega) (by intro q9 hq9; simp at hq9; rcases hq9 with rfl | rfl | rfl <;> (dsimp only; omega)) (by decide) (by decide) ?_
        refine AR.run g_X1_accepts_51_2 54 [some (.ref 8192), some (.int (nI (c)))] [.int (nI (48)), .int (nI (c))] _ [] rfl trivial ?_
        refine AR.lt2N (tgt := 78) (a := c) (b := 48) dc_X1_accepts_54 (by decide) (by first | rfl | (simp only [nI_add, pk_mul]; first | done | rfl)) (by first | rfl | (simp only [nI_add, pk_mul]; first | done | rfl)) (by omega) (by omega) (fun c54_7 => ?_) (fun c54_7 => ?_)
        · refine AR.run g_X1_accepts_78_1 79 [some (.ref 8192), some (.int (nI (c)))] [.int (nI (0))] _ [] rfl trivial ?_
          have e8_0 : F_1accepts c trd tv tdg tf = (nI (0)) := by rw [F_1accepts, if_neg w1_1, if_neg w1_3, if_neg w1_5, if_pos (show c < 48 from by omega)]
          have e8_1 : F_1accepts_tp c tp tn trd tv tdg tf tla = tp := by rw [F_1accepts_tp, if_neg w1_1, if_neg w1_3, if_neg w1_5, if_pos (show c < 48 from by omega)]
          have e8_2 : F_1accepts_tn c tn trd tv tdg tf = tn := by rw [F_1accepts_tn, if_neg w1_1, if_neg w1_3, if_neg w1_5, if_pos (show c < 48 from by omega)]
          have e8_3 : F_1accepts_trd c trd tv tdg tf = trd := by rw [F_1accepts_trd, if_neg w1_1, if_neg w1_3, if_neg w1_5, if_pos (show c < 48 from by omega)]
          have e8_4 : F_1accepts_tv c trd tv tdg tf = tv := by rw [F_1accepts_tv, if_neg w1_1, if_neg w1_3, if_neg w1_5, if_pos (show c < 48 from by omega)]
          have e8_5 : F_1accepts_tdg c trd tv tdg tf = tdg := by rw [F_1accepts_tdg, if_neg w1_1, if_neg w1_3, if_neg w1_5, if_pos (show c < 48 from by omega)]
          have e8_6 : F_1accepts_tf c trd tv tdg tf = tf := by rw [F_1accepts_tf, if_neg w1_1, if_neg w1_3, if_neg w1_5, if_pos (show c < 48 from by omega)]
          have e8_7 : F_1accepts_tla c trd tv tdg tf tla = tla := by rw [F_1accepts_tla, if_neg w1_1, if_neg w1_3, if_neg w1_5, if_pos (show c < 48 from by omega)]
          exact AR.retZ dc_X1_accepts_79 rfl (Or.inl rfl) e8_0.symm (by rw [e8_1, e8_2, e8_3, e8_4, e8_5, e8_6, e8_7])
        · refine AR.run g_X1_accepts_57_2 60 [some (.ref 8192), some (.int (nI (c)))] [.int (nI (57)), .int (nI (c))] _ [] rfl trivial ?_
          refine AR.gt2N (tgt := 78) (a := c) (b := 57) dc_X1_accepts_60 (by decide) (by first | rfl | (simp only [nI_add, pk_mul]; first | done | rfl)) (by first | rfl | (simp only [nI_add, pk_mul]; first | done | rfl)) (by omega) (by omega) (fun c60_9 => ?_) (fun c60_9 => ?_)
          · refine AR.run g_X1_accepts_78_1 79 [some (.ref 8192), some (.int (nI (c)))] [.int (nI (0))] _ [] rfl trivial ?_
            have e10_0 : F_1accepts c trd tv tdg tf = (nI (0)) := by rw [F_1accepts, if_neg w1_1, if_neg w1_3, if_neg w1_5, if_neg (show ¬ (c < 48) from by omega), if_pos (show 57 < c from by omega)]
            have e10_1 : F_1accepts_tp c tp tn trd tv tdg tf tla = tp := by rw [F_1accepts_tp, if_neg w1_1, if_neg w1_3, if_neg w1_5, if_neg (show ¬ (c < 48) from by omega), if_pos (show 57 < c from by omega)]
            have e10_2 : F_1accepts_tn c tn trd tv tdg tf = tn := by rw [F_1accepts_tn, if_neg w1_1, if_neg w1_3, if_neg w1_5, if_neg (show ¬ (c < 48) from by omega), if_pos (show 57 < c from by omega)]
            have e10_3 : F_1accepts_trd c trd tv tdg tf = trd := by rw [F_1accepts_trd, if_neg w1_1, if_neg w1_3, if_neg w1_5, if_neg (show ¬ (c < 48) from by omega), if_pos (show 57 < c from by omega)]
            have e10_4 : F_1accepts_tv c trd tv tdg tf = tv := by rw [F_1accepts_tv, if_neg w1_1, if_neg w1_3, if_neg w1_5, if_neg (show ¬ (c < 48) from by omega), if_pos (show 57 < c from by omega)]
            have e10_5 : F_1accepts_tdg c trd tv tdg tf = tdg := by rw [F_1accepts_tdg, if_neg w1_1, if_neg w1_3, if_neg w1_5, if_neg (show ¬ (c < 48) from by omega), if_pos (show 57 < c from by omega)]
            have e10_6 : F_1accepts_tf c trd tv tdg tf = tf := by rw [F_1accepts_tf, if_neg w1_1, if_neg w1_3, if_neg w1_5, if_neg (show ¬ (c < 48) from by omega), if_pos (show 57 < c from by omega)]
            have e10_7 : F_1accepts_tla c trd tv tdg tf tla = tla := by rw [F_1accepts_tla, if_neg w1_1, if_neg w1_3, if_neg w1_5, if_neg (show ¬ (c < 48) from by omega), if_pos (show 57 < c from by omega)]
            exact AR.retZ dc_X1_accepts_79 rfl (Or.inl rfl) e10_0.symm (by rw [e10_1, e10_2, e10_3, e10_4, e10_5, e10_6, e10_7])
          · refine AR.run g_X1_accepts_63_4 68 [some (.ref 8192), some (.int (nI (c)))] [.int ((nI (c)) - (nI (48))), .ref 8192] _ [] rfl trivial ?_
            refine AR.callV1 (8192) [.int ((nI (c)) - (nI (48)))] [] lk_1_77 dc_X1_accepts_68 rfl rfl (s_1acceptsDigit _ ((nI (c)) - (nI (48))) (by assumption) (by omega)) (by first | rfl | (simp only [nI_add, pk_mul]; first | done | rfl)) rfl ?_
            refine AR.eq (tgt := 78) dc_X1_accepts_71 (by decide) (fun c71_11 => ?_) (fun c71_11 => ?_)
            · refine AR.run g_X1_accepts_78_1 79 [some (.ref 8192), some (.int (nI (c)))] [.int (nI (0))] _ [] rfl trivial ?_
              have e12_0 : F_1accepts c trd tv tdg tf = (nI (0)) := by rw [F_1accepts, if_neg w1_1, if_neg w1_3, if_neg w1_5, if_neg (show ¬ (c < 48) from by omega), if_neg (show ¬ (57 < c) from by omega), if_pos c71_11]
              have e12_1 : F_1accepts_tp c tp tn trd tv tdg tf tla = (F_1acceptsDigit_tp ((nI (c)) - (nI (48))) tp tn trd tv tdg tf tla) := by rw [F_1accepts_tp, if_neg w1_1, if_neg w1_3, if_neg w1_5, if_neg (show ¬ (c < 48) from by omega), if_neg (show ¬ (57 < c) from by omega), if_pos c71_11]
              have e12_2 : F_1accepts_tn c tn trd tv tdg tf = (F_1acceptsDigit_tn ((nI (c)) - (nI (48))) tn trd tv tdg tf) := by rw [F_1accepts_tn, if_neg w1_1, if_neg w1_3, if_neg w1_5, if_neg (show ¬ (c < 48) from by omega), if_neg (show ¬ (57 < c) from by omega), if_pos c71_11]
              have e12_3 : F_1accepts_trd c trd tv tdg tf = trd := by rw [F_1accepts_trd, if_neg w1_1, if_neg w1_3, if_neg w1_5, if_neg (show ¬ (c < 48) from by omega), if_neg (show ¬ (57 < c) from by omega), if_pos c71_11]
              have e12_4 : F_1accepts_tv c trd tv tdg tf = (F_1acceptsDigit_tv ((nI (c)) - (nI (48))) trd tv tdg tf) := by rw [F_1accepts_tv, if_neg w1_1, if_neg w1_3, if_neg w1_5, if_neg (show ¬ (c < 48) from by omega), if_neg (show ¬ (57 < c) from by omega), if_pos c71_11]
              have e12_5 : F_1accepts_tdg c trd tv tdg tf = (F_1acceptsDigit_tdg ((nI (c)) - (nI (48))) trd tv tdg tf) := by rw [F_1accepts_tdg, if_neg w1_1, if_neg w1_3, if_neg w1_5, if_neg (show ¬ (c < 48) from by omega), if_neg (show ¬ (57 < c) from by omega), if_pos c71_11]
              have e12_6 : F_1accepts_tf c trd tv tdg tf = tf := by rw [F_1accepts_tf, if_neg w1_1, if_neg w1_3, if_neg w1_5, if_neg (show ¬ (c < 48) from by omega), if_neg (show ¬ (57 < c) from by omega), if_pos c71_11]
              have e12_7 : F_1accepts_tla c trd tv tdg tf tla = tla := by rw [F_1accepts_tla, if_neg w1_1, if_neg w1_3, if_neg w1_5, if_neg (show ¬ (c < 48) from by omega), if_neg (show ¬ (57 < c) from by omega), if_pos c71_11]
              exact AR.retZ dc_X1_accepts_79 rfl (Or.inl rfl) e12_0.symm (by rw [e12_1, e12_2, e12_3, e12_4, e12_5, e12_6, e12_7])
            · refine AR.run g_X1_accepts_74_2 79 [some (.ref 8192), some (.int (nI (c)))] [.int (nI (1))] _ [] rfl trivial ?_
              have e13_0 : F_1accepts c trd tv tdg tf = (nI (1)) := by rw [F_1accepts, if_neg w1_1, if_neg w1_3, if_neg w1_5, if_neg (show ¬ (c < 48) from by omega), if_neg (show ¬ (57 < c) from by omega), if_neg c71_11]
              have e13_1 : F_1accepts_tp c tp tn trd tv tdg tf tla = (F_1acceptsDigit_tp ((nI (c)) - (nI (48))) tp tn trd tv tdg tf tla) := by rw [F_1accepts_tp, if_neg w1_1, if_neg w1_3, if_neg w1_5, if_neg (show ¬ (c < 48) from by omega), if_neg (show ¬ (57 < c) from by omega), if_neg c71_11]
              have e13_2 : F_1accepts_tn c tn trd tv tdg tf = (F_1acceptsDigit_tn ((nI (c)) - (nI (48))) tn trd tv tdg tf) := by rw [F_1accepts_tn, if_neg w1_1, if_neg w1_3, if_neg w1_5, if_neg (show ¬ (c < 48) from by omega), if_neg (show ¬ (57 < c) from by omega), if_neg c71_11]
              have e13_3 : F_1accepts_trd c trd tv tdg tf = trd := by rw [F_1accepts_trd, if_neg w1_1, if_neg w1_3, if_neg w1_5, if_neg (show ¬ (c < 48) from by omega), if_neg (show ¬ (57 < c) from by omega), if_neg c71_11]
              have e13_4 : F_1accepts_tv c trd tv tdg tf = (F_1acceptsDigit_tv ((nI (c)) - (nI (48))) trd tv tdg tf) := by rw [F_1accepts_tv, if_neg w1_1, if_neg w1_3, if_neg w1_5, if_neg (show ¬ (c < 48) from by omega), if_neg (show ¬ (57 < c) from by omega), if_neg c71_11]
              have e13_5 : F_1accepts_tdg c trd tv tdg tf = (F_1acceptsDigit_tdg ((nI (c)) - (nI (48))) trd tv tdg tf) := by rw [F_1accepts_tdg, if_neg w1_1, if_neg w1_3, if_neg w1_5, if_neg (show ¬ (c < 48) from by omega), if_neg (show ¬ (57 < c) from by omega), if_neg c71_11]
              have e13_6 : F_1accepts_tf c trd tv tdg tf = tf := by rw [F_1accepts_tf, if_neg w1_1, if_neg w1_3, if_neg w1_5, if_neg (show ¬ (c < 48) from by omega), if_neg (show ¬ (57 < c) from by omega), if_neg c71_11]
              have e13_7 : F_1accepts_tla c trd tv tdg tf tla = tla := by rw [F_1accepts_tla, if_neg w1_1, if_neg w1_3, if_neg w1_5, if_neg (show ¬ (c < 48) from by omega), if_neg (show ¬ (57 < c) from by omega), if_neg c71_11]
              exact AR.retZ dc_X1_accepts_79 rfl (Or.inr rfl) e13_0.symm (by rw [e13_1, e13_2, e13_3, e13_4, e13_5, e13_6, e13_7])
