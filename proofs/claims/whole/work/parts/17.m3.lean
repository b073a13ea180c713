theorem AR.tswN {E : AE} {M : AM} {d pc : Nat} {L : AL} {st : List Value} {h : AH} {o : AR0} {h' : AH} {mc ms : Nat} {dflt lo hi : Int} {offs : Array Int} {len : Nat} {x : Int32} {w : Nat} {off : Int} {tgt : Nat} (k : Nat) (hd : decode M.bytes pc = .ok (.tableswitch dflt lo hi offs, len)) (hx : x = nI w) (hw : w = k) (hk : k < 2147483648) (j : Nat) (hj1 : (k : Int) = lo + j) (hj : j < (hi + 1 - lo).toNat) (ho : offs[j]? = some off) (ht : (pc : Int) + off = (tgt : Int)) (kk : AR E M d tgt L st h o h' mc ms) : AR E M d pc L (.int x :: st) h o h' mc ms :=
  AR.tsw hd j (by rw [hx, hw, nI_toInt hk]; exact hj1) hj ho ht kk
theorem AR.tswdN {E : AE} {M : AM} {d pc : Nat} {L : AL} {st : List Value} {h : AH} {o : AR0} {h' : AH} {mc ms : Nat} {dflt lo hi : Int} {offs : Array Int} {len : Nat} {x : Int32} {w : Nat} {tgt : Nat} (hd : decode M.bytes pc = .ok (.tableswitch dflt lo hi offs, len)) (hx : x = nI w) (hw : w < 2147483648) (hb : (w : Int) < lo ∨ hi < (w : Int)) (ht : (pc : Int) + dflt = (tgt : Int)) (kk : AR E M d tgt L st h o h' mc ms) : AR E M d pc L (.int x :: st) h o h' mc ms :=
  AR.tswd hd (by rw [hx, nI_toInt hw]; exact hb) ht kk
/-- what the walks of the reference need of its cells -/
def ZI (z : Nat → Int32) (nv nc nr ne : Nat) : Prop := (z 0 = nI nv ∧ nv ≤ 12) ∧ (z 1 = nI nc ∧ nc ≤ 4) ∧ (z 2 = nI nr ∧ nr ≤ 3) ∧ (z 5 = nI ne ∧ ne ≤ 60) ∧ LV z nv
def F_5isOpen (v : Nat) (k : Nat) (z : Nat → Int32) : Int32 := if (z (423 + 3 * (40 * v + k) + 0)) = (nI (1)) then if (z 4) < (z (423 + 3 * (40 * v + k) + 2)) then (nI (0)) else (nI (1)) else (nI (0))
theorem F_5isOpen_01 (v : Nat) (k : Nat) (z : Nat → Int32) : F_5isOpen v k z = nI 0 ∨ F_5isOpen v k z = nI 1 := by
  unfold F_5isOpen
  (repeat' split) <;> first | exact Or.inl rfl | exact Or.inr rfl | exact wi01 _ _ _
theorem g_X5_isOpen_0_4 : ab_oks M_X5_isOpen [(0, .aload_n 0, 1, 0, 0, 0, .null), (1, .iload_n 1, 1, 1, 0, 0, .null), (2, .iload_n 2, 1, 2, 0, 0, .null), (3, .iconst 0, 1, 0, 0, 0, .int (nI (0)))] = true := by decide +kernel
theorem dc_X5_isOpen_4 : decode (AM.bytes M_X5_isOpen) 4 = .ok (.invokevirtual 65, 3) := by decide +kernel
theorem g_X5_isOpen_7_1 : ab_oks M_X5_isOpen [(7, .iconst 1, 1, 0, 0, 0, .int (nI (1)))] = true := by decide +kernel
theorem dc_X5_isOpen_8 : decode (AM.bytes M_X5_isOpen) 8 = .ok (.if_icmp .ne 23, 3) := by decide +kernel
theorem g_X5_isOpen_31_1 : ab_oks M_X5_isOpen [(31, .iconst 0, 1, 0, 0, 0, .int (nI (0)))] = true := by decide +kernel
theorem dc_X5_isOpen_32 : decode (AM.bytes M_X5_isOpen) 32 = .ok (.ireturn, 1) := by decide +kernel
theorem g_X5_isOpen_11_4 : ab_oks M_X5_isOpen [(11, .aload_n 0, 1, 0, 0, 0, .null), (12, .iload_n 1, 1, 1, 0, 0, .null), (13, .iload_n 2, 1, 2, 0, 0, .null), (14, .iconst 2, 1, 0, 0, 0, .int (nI (2)))] = true := by decide +kernel
theorem dc_X5_isOpen_15 : decode (AM.bytes M_X5_isOpen) 15 = .ok (.invokevirtual 65, 3) := by decide +kernel
theorem g_X5_isOpen_18_3 : ab_oks M_X5_isOpen [(18, .aload_n 0, 1, 0, 0, 0, .null), (19, .getfield 7, 3, 5, 0, 936, .null), (22, .iconst 4, 1, 0, 0, 0, .int (nI (4)))] = true := by decide +kernel
theorem ok_X5_isOpen_23 : ab_ok M_X5_isOpen (23, .iaload, 1, 0, 0, 0, .null) = true := by decide +kernel
theorem dc_X5_isOpen_24 : decode (AM.bytes M_X5_isOpen) 24 = .ok (.if_icmp .gt 7, 3) := by decide +kernel
theorem g_X5_isOpen_27_2 : ab_oks M_X5_isOpen [(27, .iconst 1, 1, 0, 0, 0, .int (nI (1))), (28, .goto 4, 3, 32, 0, 0, .null)] = true := by decide +kernel
set_option maxRecDepth 100000 in
set_option maxHeartbeats 4000000 in
theorem s_5isOpen {E : AE} (d : Nat) (v : Nat) (k : Nat)  {o0 a0 t0 p0 u0 l0 : List AC} {z sa ro te fr to un ga pi be : Nat → Int32} {bm en sta sv ln th : Int32} {hh : Int64} (hv : v < 12) (hk : k < 40) : CT E M_X5_isOpen (d + 1) [.ref 16384, .int (nI (v)), .int (nI (k))] (hp o0 a0 t0 p0 (mo z sa ro te fr to un ga pi be bm en sta sv ln th hh) u0 l0) (.inl (some (.int (F_5isOpen v k z)))) (hp o0 a0 t0 p0 (mo z sa ro te fr to un ga pi be bm en sta sv ln th hh) u0 l0) 0 0 := by
  refine CT.of (L := [some (.ref 16384), some (.int (nI (v))), some (.int (nI (k)))]) rfl rfl ?_
  refine AR.run g_X5_isOpen_0_4 4 [some (.ref 16384), some (.int (nI (v))), some (.int (nI (k)))] [.int (nI (0)), .int (nI (k)), .int (nI (v)), .ref 16384] _ [] rfl trivial ?_
  refine AR.callV1 (16384) [.int (nI (v)), .int (nI (k)), .int (nI (0))] [] lk_5_65 dc_X5_isOpen_4 rfl rfl (s_ofLeaf _ v k 0 (by omega) (by omega) (by omega)) (by first | rfl | (simp only [nI_add, pk_mul]; first | done | rfl)) rfl ?_
  refine AR.run g_X5_isOpen_7_1 8 [some (.ref 16384), some (.int (nI (v))), some (.int (nI (k)))] [.int (nI (1)), .int (z (423 + 3 * (40 * v + k) + 0))] _ [] rfl trivial ?_
  refine AR.ne2 (tgt := 31) dc_X5_isOpen_8 (by decide) (fun c8_1 => ?_) (fun c8_1 => ?_)
  · refine AR.run g_X5_isOpen_31_1 32 [some (.ref 16384), some (.int (nI (v))), some (.int (nI (k)))] [.int (nI (0))] _ [] rfl trivial ?_
    have e2_0 : F_5isOpen v k z = (nI (0)) := by rw [F_5isOpen, if_neg c8_1]
    exact AR.retZ dc_X5_isOpen_32 rfl (Or.inl rfl) e2_0.symm rfl
  · refine AR.run g_X5_isOpen_11_4 15 [some (.ref 16384), some (.int (nI (v))), some (.int (nI (k)))] [.int (nI (2)), .int (nI (k)), .int (nI (v)), .ref 16384] _ [] rfl trivial ?_
    refine AR.callV1 (16384) [.int (nI (v)), .int (nI (k)), .int (nI (2))] [] lk_5_65 dc_X5_isOpen_15 rfl rfl (s_ofLeaf _ v k 2 (by omega) (by omega) (by omega)) (by first | rfl | (simp only [nI_add, pk_mul]; first | done | rfl)) rfl ?_
    refine AR.run g_X5_isOpen_18_3 23 [some (.ref 16384), some (.int (nI (v))), some (.int (nI (k)))] [.int (nI (4)), .ref 16385, .int (z (423 + 3 * (40 * v + k) + 2))] _ [] rfl trivial ?_
    refine AR.ald (n := 0) (e := 4) ok_X5_isOpen_23 (by first | rfl | (simp only [nI_add, pk_mul]; first | done | rfl)) rfl (by omega) (by first | decide | omega) ?_
    refine AR.gt2 (tgt := 31) dc_X5_isOpen_24 (by decide) (fun c24_3 => ?_) (fun c24_3 => ?_)
    · refine AR.run g_X5_isOpen_31_1 32 [some (.ref 16384), some (.int (nI (v))), some (.int (nI (k)))] [.int (nI (0))] _ [] rfl trivial ?_
      have e4_0 : F_5isOpen v k z = (nI (0)) := by rw [F_5isOpen, if_pos c8_1, if_pos c24_3]
      exact AR.retZ dc_X5_isOpen_32 rfl (Or.inl rfl) e4_0.symm rfl
    · refine AR.run g_X5_isOpen_27_2 32 [some (.ref 16384), some (.int (nI (v))), some (.int (nI (k)))] [.int (nI (1))] _ [] rfl trivial ?_
      have e5_0 : F_5isOpen v k z = (nI (1)) := by rw [F_5isOpen, if_pos c8_1, if_neg c24_3]
      exact AR.retZ dc_X5_isOpen_32 rfl (Or.inr rfl) e5_0.symm rfl
def B_5open_4 (v : Nat) (z : Nat → Int32) (j4 : Nat) (x4_2 : Int32) : (Int32) := if (F_5isOpen v j4 z) = 0 then (x4_2 + (nI (0))) else (x4_2 + (nI (1)))
def L_5open_4 (v : Nat) (z : Nat → Int32) : Nat → (Int32)
  | 0 => nI (0)
  | j + 1 => B_5open_4 v z j (L_5open_4 v z  j)
theorem g_X5_open_0_4 : ab_oks M_X5_open [(0, .iconst 0, 1, 0, 0, 0, .int (nI (0))), (1, .istore_n 2, 1, 2, 0, 0, .null), (2, .iconst 0, 1, 0, 0, 0, .int (nI (0))), (3, .istore_n 3, 1, 3, 0, 0, .null)] = true := by decide +kernel
theorem g_X5_open_4_4 : ab_oks M_X5_open [(4, .iload_n 3, 1, 3, 0, 0, .null), (5, .aload_n 0, 1, 0, 0, 0, .null), (6, .iload_n 1, 1, 1, 0, 0, .null), (7, .iconst 2, 1, 0, 0, 0, .int (nI (2)))] = true := by decide +kernel
theorem dc_X5_open_8 : decode (AM.bytes M_X5_open) 8 = .ok (.invokevirtual 62, 3) := by decide +kernel
theorem dc_X5_open_11 : decode (AM.bytes M_X5_open) 11 = .ok (.if_icmp .ge 26, 3) := by decide +kernel
theorem g_X5_open_14_4 : ab_oks M_X5_open [(14, .iload_n 2, 1, 2, 0, 0, .null), (15, .aload_n 0, 1, 0, 0, 0, .null), (16, .iload_n 1, 1, 1, 0, 0, .null), (17, .iload_n 3, 1, 3, 0, 0, .null)] = true := by decide +kernel
theorem lk_5_152 : ab_lkV "LeafCradlesModel" 152 M_X5_isOpen 2 [1175, 1177, 63, 97, 1178] = true := by decide +kernel
theorem dc_X5_open_18 : decode (AM.bytes M_X5_open) 18 = .ok (.invokevirtual 152, 3) := by decide +kernel
theorem dc_X5_open_21 : decode (AM.bytes M_X5_open) 21 = .ok (.ifCond .eq 7, 3) := by decide +kernel
theorem g_X5_open_28_5 : ab_oks M_X5_open [(28, .iconst 0, 1, 0, 0, 0, .int (nI (0))), (29, .iadd, 1, 0, 0, 0, .null), (30, .istore_n 2, 1, 2, 0, 0, .null), (31, .iinc 3 1, 3, 3, 0, 0, .int (nI (1))), (34, .goto (-30), 3, 4, 0, 0, .null)] = true := by decide +kernel
theorem g_X5_open_24_6 : ab_oks M_X5_open [(24, .iconst 1, 1, 0, 0, 0, .int (nI (1))), (25, .goto 4, 3, 29, 0, 0, .null), (29, .iadd, 1, 0, 0, 0, .null), (30, .istore_n 2, 1, 2, 0, 0, .null), (31, .iinc 3 1, 3, 3, 0, 0, .int (nI (1))), (34, .goto (-30), 3, 4, 0, 0, .null)] = true := by decide +kernel
theorem g_X5_open_37_1 : ab_oks M_X5_open [(37, .iload_n 2, 1, 2, 0, 0, .null)] = true := by decide +kernel
theorem dc_X5_open_38 : decode (AM.bytes M_X5_open) 38 = .ok (.ireturn, 1) := by decide +kernel
set_option maxRecDepth 100000 in
set_option maxHeartbeats 4000000 in
theorem s_5open {E : AE} (d : Nat) (v : Nat)  {o0 a0 t0 p0 u0 l0 : List AC} {z sa ro te fr to un ga pi be : Nat → Int32} {bm en sta sv ln th : Int32} {hh : Int64} (hv : v < 12) (hl : z (11 + 7 * v + 2) = nI (lv z v)) (h40 : lv z v ≤ 40) : CT E M_X5_open (d + 2) [.ref 16384, .int (nI (v))] (hp o0 a0 t0 p0 (mo z sa ro te fr to un ga pi be bm en sta sv ln th hh) u0 l0) (.inl (some (.int (L_5open_4 v z (lv z v))))) (hp o0 a0 t0 p0 (mo z sa ro te fr to un ga pi be bm en sta sv ln th hh) u0 l0) 0 0 := by
  refine CT.of (L := [some (.ref 16384), some (.int (nI (v))), none, none]) rfl rfl ?_
  refine AR.run g_X5_open_0_4 4 [some (.ref 16384), some (.int (nI (v))), some (.int (nI (0))), some (.int (nI (0)))] [] _ [] rfl trivial ?_
  refine AR.cast (L' := [some (.ref 16384), some (.int (nI (v))), some (.int (L_5open_4 v z 0)), some (.int (nI (0)))]) (by first | rfl | (rw [L_5open_4])) rfl rfl (AR.loopN (lv z v) (fun j4 => [some (.ref 16384), some (.int (nI (v))), some (.int (L_5open_4 v z j4)), some (.int (nI (j4)))]) (fun j4 => (hp o0 a0 t0 p0 (mo z sa ro te fr to un ga pi be bm en sta sv ln th hh) u0 l0)) (fun j4 => True) (fun j4 hj4 hI4 ih4 => ?_) (fun hI4 => ?_) 0 (by omega) (by first | trivial | omega))
  · refine AR.run g_X5_open_4_4 8 [some (.ref 16384), some (.int (nI (v))), some (.int (L_5open_4 v z j4)), some (.int (nI (j4)))] [.int (nI (2)), .int (nI (v)), .ref 16384, .int (nI (j4))] _ [] rfl trivial ?_
    refine AR.callV1 (16384) [.int (nI (v)), .int (nI (2))] [.int (nI (j4))] lk_5_62 dc_X5_open_8 rfl rfl (s_ofVolume _ v 2 (by omega) (by omega)) (by first | rfl | (simp only [nI_add, pk_mul]; first | done | rfl)) rfl ?_
    refine AR.top hl ?_
    refine AR.ge2N (tgt := 37) (a := j4) (b := (lv z v)) dc_X5_open_11 (by decide) (by first | rfl | (simp only [nI_add, pk_mul]; first | done | rfl)) (by first | rfl | (simp only [nI_add, pk_mul]; first | done | rfl)) (by omega) (by omega) (fun c11_1 => absurd c11_1 (by omega)) (fun c11_1 => ?_)
    refine AR.run g_X5_open_14_4 18 [some (.ref 16384), some (.int (nI (v))), some (.int (L_5open_4 v z j4)), some (.int (nI (j4)))] [.int (nI (j4)), .int (nI (v)), .ref 16384, .int (L_5open_4 v z j4)] _ [] rfl trivial ?_
    refine AR.callV1 (16384) [.int (nI (v)), .int (nI (j4))] [.int (L_5open_4 v z j4)] lk_5_152 dc_X5_open_18 rfl rfl (s_5isOpen _ v j4 (by omega) (by omega)) (by first | rfl | (simp only [nI_add, pk_mul]; first | done | rfl)) rfl ?_
    refine AR.eq (tgt := 28) dc_X5_open_21 (by decide) (fun c21_2 => ?_) (fun c21_2 => ?_)
    · refine AR.run g_X5_open_28_5 4 [some (.ref 16384), some (.int (nI (v))), some (.int ((L_5open_4 v z j4) + (nI (0)))), some (.int ((nI (j4)) + (nI (1))))] [] _ [] rfl trivial ?_
      have e3 : L_5open_4 v z (j4 + 1) = ((L_5open_4 v z j4) + (nI (0))) := by rw [L_5open_4, B_5open_4, if_pos c21_2]
      exact AR.cast (L' := [some (.ref 16384), some (.int (nI (v))), some (.int (L_5open_4 v z (j4 + 1))), some (.int (nI (j4 + 1)))]) (by rw [e3, nI_add]) rfl rfl (ih4 (by first | trivial | omega))
    · refine AR.run g_X5_open_24_6 4 [some (.ref 16384), some (.int (nI (v))), some (.int ((L_5open_4 v z j4) + (nI (1)))), some (.int ((nI (j4)) + (nI (1))))] [] _ [] rfl trivial ?_
      have e4 : L_5open_4 v z (j4 + 1) = ((L_5open_4 v z j4) + (nI (1))) := by rw [L_5open_4, B_5open_4, if_neg c21_2]
      exact AR.cast (L' := [some (.ref 16384), some (.int (nI (v))), some (.int (L_5open_4 v z (j4 + 1))), some (.int (nI (j4 + 1)))]) (by rw [e4, nI_add]) rfl rfl (ih4 (by first | trivial | omega))
  · refine AR.run g_X5_open_4_4 8 [some (.ref 16384), some (.int (nI (v))), some (.int (L_5open_4 v z (lv z v))), some (.int (nI (lv z v)))] [.int (nI (2)), .int (nI (v)), .ref 16384, .int (nI (lv z v))] _ [] rfl trivial ?_
    refine AR.callV1 (16384) [.int (nI (v)), .int (nI (2))] [.int (nI (lv z v))] lk_5_62 dc_X5_open_8 rfl rfl (s_ofVolume _ v 2 (by omega) (by omega)) (by first | rfl | (simp only [nI_add, pk_mul]; first | done | rfl)) rfl ?_
    refine AR.top hl ?_
    refine AR.ge2N (tgt := 37) (a := lv z v) (b := (lv z v)) dc_X5_open_11 (by decide) (by first | rfl | (simp only [nI_add, pk_mul]; first | done | rfl)) (by first | rfl | (simp only [nI_add, pk_mul]; first | done | rfl)) (by omega) (by omega) (fun c11_5 => ?_) (fun c11_5 => absurd c11_5 (by omega))
    refine AR.run g_X5_open_37_1 38 [some (.ref 16384), some (.int (nI (v))), some (.int (L_5open_4 v z (lv z v))), some (.int (nI (lv z v)))] [.int (L_5open_4 v z (lv z v))] _ [] rfl trivial ?_
    exact AR.retI dc_X5_open_38 rfl rfl rfl
def B_5leavesWith_5 (v : Nat) (how : Int32) (z : Nat → Int32) (j5 : Nat) (x5_3 : Int32) : (Int32) := if (z (423 + 3 * (40 * v + j5) + 0)) = how then (x5_3 + (nI (1))) else (x5_3 + (nI (0)))
def L_5leavesWith_5 (v : Nat) (how : Int32) (z : Nat → Int32) : Nat → (Int32)
  | 0 => nI (0)
  | j + 1 => B_5leavesWith_5 v how z j (L_5leavesWith_5 v how z  j)
set_option maxRecDepth 100000 in
set_option maxHeartbeats 4000000 in
theorem s_5leavesWith {E : AE} (d : Nat) (v : Nat) (how : Int32)  {o0 a0 t0 p0 u0 l0 : List AC} {z sa ro te fr to un ga pi be : Nat → Int32} {bm en sta sv ln th : Int32} {hh : Int64} (hv : v < 12) (hl : z (11 + 7 * v + 2) = nI (lv z v)) (h40 : lv z v ≤ 40) : CT E M_X5_leavesWith (d + 1) [.ref 16384, .int (nI (v)), .int (how)] (hp o0 a0 t0 p0 (mo z sa ro te fr to un ga pi be bm en sta sv ln th hh) u0 l0) (.inl (some (.int (L_5leavesWith_5 v how z (lv z v))))) (hp o0 a0 t0 p0 (mo z sa ro te fr to un ga pi be bm en sta sv ln th hh) u0 l0) 0 0 := by
  refine CT.of (L := [some (.ref 16384), some (.int (nI (v))), some (.int (how)), none, none]) rfl rfl ?_
  refine AR.run g_X5_leavesWith_0_4 5 [some (.ref 16384), some (.int (nI (v))), some (.int (how)), some (.int (nI (0))), some (.int (nI (0)))] [] _ [] rfl trivial ?_
  refine AR.cast (L' := [some (.ref 16384), some (.int (nI (v))), some (.int (how)), some (.int (L_5leavesWith_5 v how z 0)), some (.int (nI (0)))]) (by first | rfl | (rw [L_5leavesWith_5])) rfl rfl (AR.loopN (lv z v) (fun j5 => [some (.ref 16384), some (.int (nI (v))), some (.int (how)), some (.int (L_5leavesWith_5 v how z j5)), some (.int (nI (j5)))]) (fun j5 => (hp o0 a0 t0 p0 (mo z sa ro te fr to un ga pi be bm en sta sv ln th hh) u0 l0)) (fun j5 => True) (fun j5 hj5 hI5 ih5 => ?_) (fun hI5 => ?_) 0 (by omega) (by first | trivial | omega))
  · refine AR.run g_X5_leavesWith_5_4 10 [some (.ref 16384), some (.int (nI (v))), some (.int (how)), some (.int (L_5leavesWith_5 v how z j5)), some (.int (nI (j5)))] [.int (nI (2)), .int (nI (v)), .ref 16384, .int (nI (j5))] _ [] rfl trivial ?_
    refine AR.callV1 (16384) [.int (nI (v)), .int (nI (2))] [.int (nI (j5))] lk_5_62 dc_X5_leavesWith_10 rfl rfl (s_ofVolume _ v 2 (by omega) (by omega)) (by first | rfl | (simp only [nI_add, pk_mul]; first | done | rfl)) rfl ?_
    refine AR.top hl ?_
    refine AR.ge2N (tgt := 42) (a := j5) (b := (lv z v)) dc_X5_leavesWith_13 (by decide) (by first | rfl | (simp only [nI_add, pk_mul]; first | done | rfl)) (by first | rfl | (simp only [nI_add, pk_mul]; first | done | rfl)) (by omega) (by omega) (fun c13_1 => absurd c13_1 (by omega)) (fun c13_1 => ?_)
    refine AR.run g_X5_leavesWith_16_5 22 [some (.ref 16384), some (.int (nI (v))), some (.int (how)), some (.int (L_5leavesWith_5 v how z j5)), some (.int (nI (j5)))] [.int (nI (0)), .int (nI (j5)), .int (nI (v)), .ref 16384, .int (L_5leavesWith_5 v how z j5)] _ [] rfl trivial ?_
    refine AR.callV1 (16384) [.int (nI (v)), .int (nI (j5)), .int (nI (0))] [.int (L_5leavesWith_5 v how z j5)] lk_5_65 dc_X5_leavesWith_22 rfl rfl (s_ofLeaf _ v j5 0 (by omega) (by omega) (by omega)) (by first | rfl | (simp only [nI_add, pk_mul]; first | done | rfl)) rfl ?_
    refine AR.run g_X5_leavesWith_25_1 26 [some (.ref 16384), some (.int (nI (v))), some (.int (how)), some (.int (L_5leavesWith_5 v how z j5)), some (.int (nI (j5)))] [.int (how), .int (z (423 + 3 * (40 * v + j5) + 0)), .int (L_5leavesWith_5 v how z j5)] _ [] rfl trivial ?_
    refine AR.ne2 (tgt := 33) dc_X5_leavesWith_26 (by decide) (fun c26_2 => ?_) (fun c26_2 => ?_)
    · refine AR.run g_X5_leavesWith_33_5 5 [some (.ref 16384), some (.int (nI (v))), some (.int (how)), some (.int ((L_5leavesWith_5 v how z j5) + (nI (0)))), some (.int ((nI (j5)) + (nI (1))))] [] _ [] rfl trivial ?_
      have e3 : L_5leavesWith_5 v how z (j5 + 1) = ((L_5leavesWith_5 v how z j5) + (nI (0))) := by rw [L_5leavesWith_5, B_5leavesWith_5, if_neg c26_2]
      exact AR.cast (L' := [some (.ref 16384), some (.int (nI (v))), some (.int (how)), some (.int (L_5leavesWith_5 v how z (j5 + 1))), some (.int (nI (j5 + 1)))]) (by rw [e3, nI_add]) rfl rfl (ih5 (by first | trivial | omega))
    · refine AR.run g_X5_leavesWith_29_6 5 [some (.ref 16384), some (.int (nI (v))), some (.int (how)), some (.int ((L_5leavesWith_5 v how z j5) + (nI (1)))), some (.int ((nI (j5)) + (nI (1))))] [] _ [] rfl trivial ?_
      have e4 : L_5leavesWith_5 v how z (j5 + 1) = ((L_5leavesWith_5 v how z j5) + (nI (1))) := by rw [L_5leavesWith_5, B_5leavesWith_5, if_pos c26_2]
      exact AR.cast (L' := [some (.ref 16384), some (.int (nI (v))), some (.int (how)), some (.int (L_5leavesWith_5 v how z (j5 + 1))), some (.int (nI (j5 + 1)))]) (by rw [e4, nI_add]) rfl rfl (ih5 (by first | trivial | omega))
  · refine AR.run g_X5_leavesWith_5_4 10 [some (.ref 16384), some (.int (nI (v))), some (.int (how)), some (.int (L_5leavesWith_5 v how z (lv z v))), some (.int (nI (lv z v)))] [.int (nI (2)), .int (nI (v)), .ref 16384, .int (nI (lv z v))] _ [] rfl trivial ?_
    refine AR.callV1 (16384) [.int (nI (v)), .int (nI (2))] [.int (nI (lv z v))] lk_5_62 dc_X5_leavesWith_10 rfl rfl (s_ofVolume _ v 2 (by omega) (by omega)) (by first | rfl | (simp only [nI_add, pk_mul]; first | done | rfl)) rfl ?_
    refine AR.top hl ?_
    refine AR.ge2N (tgt := 42) (a := lv z v) (b := (lv z v)) dc_X5_leavesWith_13 (by decide) (by first | rfl | (simp only [nI_add, pk_mul]; first | done | rfl)) (by first | rfl | (simp only [nI_add, pk_mul]; first | done | rfl)) (by omega) (by omega) (fun c13_5 => ?_) (fun c13_5 => absurd c13_5 (by omega))
    refine AR.run g_X5_leavesWith_42_1 43 [some (.ref 16384), some (.int (nI (v))), some (.int (how)), some (.int (L_5leavesWith_5 v how z (lv z v))), some (.int (nI (lv z v)))] [.int (L_5leavesWith_5 v how z (lv z v))] _ [] rfl trivial ?_
    exact AR.retI dc_X5_leavesWith_43 rfl rfl rfl
def B_5scanned_4 (v : Nat) (z : Nat → Int32) (j4 : Nat) (x4_2 : Int32) : (Int32) := (x4_2 + (z (423 + 3 * (40 * v + j4) + 1)))
def L_5scanned_4 (v : Nat) (z : Nat → Int32) : Nat → (Int32)
  | 0 => nI (0)
  | j + 1 => B_5scanned_4 v z j (L_5scanned_4 v z  j)
theorem g_X5_scanned_0_4 : ab_oks M_X5_scanned [(0, .iconst 0, 1, 0, 0, 0, .int (nI (0))), (1, .istore_n 2, 1, 2, 0, 0, .null), (2, .iconst 0, 1, 0, 0, 0, .int (nI (0))), (3, .istore_n 3, 1, 3, 0, 0, .null)] = true := by decide +kernel
theorem g_X5_scanned_4_4 : ab_oks M_X5_scanned [(4, .iload_n 3, 1, 3, 0, 0, .null), (5, .aload_n 0, 1, 0, 0, 0, .null), (6, .iload_n 1, 1, 1, 0, 0, .null), (7, .iconst 2, 1, 0, 0, 0, .int (nI (2)))] = true := by decide +kernel
theorem dc_X5_scanned_8 : decode (AM.bytes M_X5_scanned) 8 = .ok (.invokevirtual 62, 3) := by decide +kernel
theorem dc_X5_scanned_11 : decode (AM.bytes M_X5_scanned) 11 = .ok (.if_icmp .ge 19, 3) := by decide +kernel
theorem g_X5_scanned_14_5 : ab_oks M_X5_scanned [(14, .iload_n 2, 1, 2, 0, 0, .null), (15, .aload_n 0, 1, 0, 0, 0, .null), (16, .iload_n 1, 1, 1, 0, 0, .null), (17, .iload_n 3, 1, 3, 0, 0, .null), (18, .iconst 1, 1, 0, 0, 0, .int (nI (1)))] = true := by decide +kernel
theorem dc_X5_scanned_19 : decode (AM.bytes M_X5_scanned) 19 = .ok (.invokevirtual 65, 3) := by decide +kernel
theorem g_X5_scanned_22_4 : ab_oks M_X5_scanned [(22, .iadd, 1, 0, 0, 0, .null), (23, .istore_n 2, 1, 2, 0, 0, .null), (24, .iinc 3 1, 3, 3, 0, 0, .int (nI (1))), (27, .goto (-23), 3, 4, 0, 0, .null)] = true := by decide +kernel
theorem g_X5_scanned_30_1 : ab_oks M_X5_scanned [(30, .iload_n 2, 1, 2, 0, 0, .null)] = true := by decide +kernel
theorem dc_X5_scanned_31 : decode (AM.bytes M_X5_scanned) 31 = .ok (.ireturn, 1) := by decide +kernel
set_option maxRecDepth 100000 in
set_option maxHeartbeats 4000000 in
theorem s_5scanned {E : AE} (d : Nat) (v : Nat)  {o0 a0 t0 p0 u0 l0 : List AC} {z sa ro te fr to un ga pi be : Nat → Int32} {bm en sta sv ln th : Int32} {hh : Int64} (hv : v < 12) (hl : z (11 + 7 * v + 2) = nI (lv z v)) (h40 : lv z v ≤ 40) : CT E M_X5_scanned (d + 1) [.ref 16384, .int (nI (v))] (hp o0 a0 t0 p0 (mo z sa ro te fr to un ga pi be bm en sta sv ln th hh) u0 l0) (.inl (some (.int (L_5scanned_4 v z (lv z v))))) (hp o0 a0 t0 p0 (mo z sa ro te fr to un ga pi be bm en sta sv ln th hh) u0 l0) 0 0 := by
  refine CT.of (L := [some (.ref 16384), some (.int (nI (v))), none, none]) rfl rfl ?_
  refine AR.run g_X5_scanned_0_4 4 [some (.ref 16384), some (.int (nI (v))), some (.int (nI (0))), some (.int (nI (0)))] [] _ [] rfl trivial ?_
  refine AR.cast (L' := [some (.ref 16384), some (.int (nI (v))), some (.int (L_5scanned_4 v z 0)), some (.int (nI (0)))]) (by first | rfl | (rw [L_5scanned_4])) rfl rfl (AR.loopN (lv z v) (fun j4 => [some (.ref 16384), some (.int (nI (v))), some (.int (L_5scanned_4 v z j4)), some (.int (nI (j4)))]) (fun j4 => (hp o0 a0 t0 p0 (mo z sa ro te fr to un ga pi be bm en sta sv ln th hh) u0 l0)) (fun j4 => True) (fun j4 hj4 hI4 ih4 => ?_) (fun hI4 => ?_) 0 (by omega) (by first | trivial | omega))
  · refine AR.run g_X5_scanned_4_4 8 [some (.ref 16384), some (.int (nI (v))), some (.int (L_5scanned_4 v z j4)), some (.int (nI (j4)))] [.int (nI (2)), .int (nI (v)), .ref 16384, .int (nI (j4))] _ [] rfl trivial ?_
    refine AR.callV1 (16384) [.int (nI (v)), .int (nI (2))] [.int (nI (j4))] lk_5_62 dc_X5_scanned_8 rfl rfl (s_ofVolume _ v 2 (by omega) (by omega)) (by first | rfl | (simp only [nI_add, pk_mul]; first | done | rfl)) rfl ?_
    refine AR.top hl ?_
    refine AR.ge2N (tgt := 30) (a := j4) (b := (lv z v)) dc_X5_scanned_11 (by decide) (by first | rfl | (simp only [nI_add, pk_mul]; first | done | rfl)) (by first | rfl | (simp only [nI_add, pk_mul]; first | done | rfl)) (by omega) (by omega) (fun c11_1 => absurd c11_1 (by omega)) (fun c11_1 => ?_)
    refine AR.run g_X5_scanned_14_5 19 [some (.ref 16384), some (.int (nI (v))), some (.int (L_5scanned_4 v z j4)), some (.int (nI (j4)))] [.int (nI (1)), .int (nI (j4)), .int (nI (v)), .ref 16384, .int (L_5scanned_4 v z j4)] _ [] rfl trivial ?_
    refine AR.callV1 (16384) [.int (nI (v)), .int (nI (j4)), .int (nI (1))] [.int (L_5scanned_4 v z j4)] lk_5_65 dc_X5_scanned_19 rfl rfl (s_ofLeaf _ v j4 1 (by omega) (by omega) (by omega)) (by first | rfl | (simp only [nI_add, pk_mul]; first | done | rfl)) rfl ?_
    refine AR.run g_X5_scanned_22_4 4 [some (.ref 16384), some (.int (nI (v))), some (.int ((L_5scanned_4 v z j4) + (z (423 + 3 * (40 * v + j4) + 1)))), some (.int ((nI (j4)) + (nI (1))))] [] _ [] rfl trivial ?_
    have e2 : L_5scanned_4 v z (j4 + 1) = ((L_5scanned_4 v z j4) + (z (423 + 3 * (40 * v + j4) + 1))) := by rw [L_5scanned_4, B_5scanned_4]
    exact AR.cast (L' := [some (.ref 16384), some (.int (nI (v))), some (.int (L_5scanned_4 v z (j4 + 1))), some (.int (nI (j4 + 1)))]) (by rw [e2, nI_add]) rfl rfl (ih4 (by first | trivial | omega))
  · refine AR.run g_X5_scanned_4_4 8 [some (.ref 16384), some (.int (nI (v))), some (.int (L_5scanned_4 v z (lv z v))), some (.int (nI (lv z v)))] [.int (nI (2)), .int (nI (v)), .ref 16384, .int (nI (lv z v))] _ [] rfl trivial ?_
    refine AR.callV1 (16384) [.int (nI (v)), .int (nI (2))] [.int (nI (lv z v))] lk_5_62 dc_X5_scanned_8 rfl rfl (s_ofVolume _ v 2 (by omega) (by omega)) (by first | rfl | (simp only [nI_add, pk_mul]; first | done | rfl)) rfl ?_
    refine AR.top hl ?_
    refine AR.ge2N (tgt := 30) (a := lv z v) (b := (lv z v)) dc_X5_scanned_11 (by decide) (by first | rfl | (simp only [nI_add, pk_mul]; first | done | rfl)) (by first | rfl | (simp only [nI_add, pk_mul]; first | done | rfl)) (by omega) (by omega) (fun c11_3 => ?_) (fun c11_3 => absurd c11_3 (by omega))
    refine AR.run g_X5_scanned_30_1 31 [some (.ref 16384), some (.int (nI (v))), some (.int (L_5scanned_4 v z (lv z v))), some (.int (nI (lv z v)))] [.int (L_5scanned_4 v z (lv z v))] _ [] rfl trivial ?_
    exact AR.retI dc_X5_scanned_31 rfl rfl rfl
def B_5barred_4 (v : Nat) (z : Nat → Int32) (j4 : Nat) (x4_2 : Int32) : (Int32) := if (z (423 + 3 * (40 * v + j4) + 2)) = 0 then (x4_2 + (nI (0))) else (x4_2 + (nI (1)))
def L_5barred_4 (v : Nat) (z : Nat → Int32) : Nat → (Int32)
  | 0 => nI (0)
  | j + 1 => B_5barred_4 v z j (L_5barred_4 v z  j)
theorem g_X5_barred_0_4 : ab_oks M_X5_barred [(0, .iconst 0, 1, 0, 0, 0, .int (nI (0))), (1, .istore_n 2, 1, 2, 0, 0, .null), (2, .iconst 0, 1, 0, 0, 0, .int (nI (0))), (3, .istore_n 3, 1, 3, 0, 0, .null)] = true := by decide +kernel
theorem g_X5_barred_4_4 : ab_oks M_X5_barred [(4, .iload_n 3, 1, 3, 0, 0, .null), (5, .aload_n 0, 1, 0, 0, 0, .null), (6, .iload_n 1, 1, 1, 0, 0, .null), (7, .iconst 2, 1, 0, 0, 0, .int (nI (2)))] = true := by decide +kernel
theorem dc_X5_barred_8 : decode (AM.bytes M_X5_barred) 8 = .ok (.invokevirtual 62, 3) := by decide +kernel
theorem dc_X5_barred_11 : decode (AM.bytes M_X5_barred) 11 = .ok (.if_icmp .ge 27, 3) := by decide +kernel
theorem g_X5_barred_14_5 : ab_oks M_X5_barred [(14, .iload_n 2, 1, 2, 0, 0, .null), (15, .aload_n 0, 1, 0, 0, 0, .null), (16, .iload_n 1, 1, 1, 0, 0, .null), (17, .iload_n 3, 1, 3, 0, 0, .null), (18, .iconst 2, 1, 0, 0, 0, .int (nI (2)))] = true := by decide +kernel
theorem dc_X5_barred_19 : decode (AM.bytes M_X5_barred) 19 = .ok (.invokevirtual 65, 3) := by decide +kernel
theorem dc_X5_barred_22 : decode (AM.bytes M_X5_barred) 22 = .ok (.ifCond .ne 7, 3) := by decide +kernel
theorem g_X5_barred_29_5 : ab_oks M_X5_barred [(29, .iconst 1, 1, 0, 0, 0, .int (nI (1))), (30, .iadd, 1, 0, 0, 0, .null), (31, .istore_n 2, 1, 2, 0, 0, .null), (32, .iinc 3 1, 3, 3, 0, 0, .int (nI (1))), (35, .goto (-31), 3, 4, 0, 0, .null)] = true := by decide +kernel
theorem g_X5_barred_25_6 : ab_oks M_X5_barred [(25, .iconst 0, 1, 0, 0, 0, .int (nI (0))), (26, .goto 4, 3, 30, 0, 0, .null), (30, .iadd, 1, 0, 0, 0, .null), (31, .istore_n 2, 1, 2, 0, 0, .null), (32, .iinc 3 1, 3, 3, 0, 0, .int (nI (1))), (35, .goto (-31), 3, 4, 0, 0, .null)] = true := by decide +kernel
theorem g_X5_barred_38_1 : ab_oks M_X5_barred [(38, .iload_n 2, 1, 2, 0, 0, .null)] = true := by decide +kernel
theorem dc_X5_barred_39 : decode (AM.bytes M_X5_barred) 39 = .ok (.ireturn, 1) := by decide +kernel
set_option maxRecDepth 100000 in
set_option maxHeartbeats 4000000 in
theorem s_5barred {E : AE} (d : Nat) (v : Nat)  {o0 a0 t0 p0 u0 l0 : List AC} {z sa ro te fr to un ga pi be : Nat → Int32} {bm en sta sv ln th : Int32} {hh : Int64} (hv : v < 12) (hl : z (11 + 7 * v + 2) = nI (lv z v)) (h40 : lv z v ≤ 40) : CT E M_X5_barred (d + 1) [.ref 16384, .int (nI (v))] (hp o0 a0 t0 p0 (mo z sa ro te fr to un ga pi be bm en sta sv ln th hh) u0 l0) (.inl (some (.int (L_5barred_4 v z (lv z v))))) (hp o0 a0 t0 p0 (mo z sa ro te fr to un ga pi be bm en sta sv ln th hh) u0 l0) 0 0 := by
  refine CT.of (L := [some (.ref 16384), some (.int (nI (v))), none, none]) rfl rfl ?_
  refine AR.run g_X5_barred_0_4 4 [some (.ref 16384), some (.int (nI (v))), some (.int (nI (0))), some (.int (nI (0)))] [] _ [] rfl trivial ?_
  refine AR.cast (L' := [some (.ref 16384), some (.int (nI (v))), some (.int (L_5barred_4 v z 0)), some (.int (nI (0)))]) (by first | rfl | (rw [L_5barred_4])) rfl rfl (AR.loopN (lv z v) (fun j4 => [some (.ref 16384), some (.int (nI (v))), some (.int (L_5barred_4 v z j4)), some (.int (nI (j4)))]) (fun j4 => (hp o0 a0 t0 p0 (mo z sa ro te fr to un ga pi be bm en sta sv ln th hh) u0 l0)) (fun j4 => True) (fun j4 hj4 hI4 ih4 => ?_) (fun hI4 => ?_) 0 (by omega) (by first | trivial | omega))
  · refine AR.run g_X5_barred_4_4 8 [some (.ref 16384), some (.int (nI (v))), some (.int (L_5barred_4 v z j4)), some (.int (nI (j4)))] [.int (nI (2)), .int (nI (v)), .ref 16384, .int (nI (j4))] _ [] rfl trivial ?_
    refine AR.callV1 (16384) [.int (nI (v)), .int (nI (2))] [.int (nI (j4))] lk_5_62 dc_X5_barred_8 rfl rfl (s_ofVolume _ v 2 (by omega) (by omega)) (by first | rfl | (simp only [nI_add, pk_mul]; first | done | rfl)) rfl ?_
    refine AR.top hl ?_
    refine AR.ge2N (tgt := 38) (a := j4) (b := (lv z v)) dc_X5_barred_11 (by decide) (by first | rfl | (simp only [nI_add, pk_mul]; first | done | rfl)) (by first | rfl | (simp only [nI_add, pk_mul]; first | done | rfl)) (by omega) (by omega) (fun c11_1 => absurd c11_1 (by omega)) (fun c11_1 => ?_)
    refine AR.run g_X5_barred_14_5 19 [some (.ref 16384), some (.int (nI (v))), some (.int (L_5barred_4 v z j4)), some (.int (nI (j4)))] [.int (nI (2)), .int (nI (j4)), .int (nI (v)), .ref 16384, .int (L_5barred_4 v z j4)] _ [] rfl trivial ?_
    refine AR.callV1 (16384) [.int (nI (v)), .int (nI (j4)), .int (nI (2))] [.int (L_5barred_4 v z j4)] lk_5_65 dc_X5_barred_19 rfl rfl (s_ofLeaf _ v j4 2 (by omega) (by omega) (by omega)) (by first | rfl | (simp only [nI_add, pk_mul]; first | done | rfl)) rfl ?_
    refine AR.ne (tgt := 29) dc_X5_barred_22 (by decide) (fun c22_2 => ?_) (fun c22_2 => ?_)
    · refine AR.run g_X5_barred_29_5 4 [some (.ref 16384), some (.int (nI (v))), some (.int ((L_5barred_4 v z j4) + (nI (1)))), some (.int ((nI (j4)) + (nI (1))))] [] _ [] rfl trivial ?_
      have e3 : L_5barred_4 v z (j4 + 1) = ((L_5barred_4 v z j4) + (nI (1))) := by rw [L_5barred_4, B_5barred_4, if_neg c22_2]
      exact AR.cast (L' := [some (.ref 16384), some (.int (nI (v))), some (.int (L_5barred_4 v z (j4 + 1))), some (.int (nI (j4 + 1)))]) (by rw [e3, nI_add]) rfl rfl (ih4 (by first | trivial | omega))
    · refine AR.run g_X5_barred_25_6 4 [some (.ref 16384), some (.int (nI (v))), some (.int ((L_5barred_4 v z j4) + (nI (0)))), some (.int ((nI (j4)) + (nI (1))))] [] _ [] rfl trivial ?_
      have e4 : L_5barred_4 v z (j4 + 1) = ((L_5barred_4 v z j4) + (nI (0))) := by rw [L_5barred_4, B_5barred_4, if_pos c22_2]
      exact AR.cast (L' := [some (.ref 16384), some (.int (nI (v))), some (.int (L_5barred_4 v z (j4 + 1))), some (.int (nI (j4 + 1)))]) (by rw [e4, nI_add]) rfl rfl (ih4 (by first | trivial | omega))
  · refine AR.run g_X5_barred_4_4 8 [some (.ref 16384), some (.int (nI (v))), some (.int (L_5barred_4 v z (lv z v))), some (.int (nI (lv z v)))] [.int (nI (2)), .int (nI (v)), .ref 16384, .int (nI (lv z v))] _ [] rfl trivial ?_
    refine AR.callV1 (16384) [.int (nI (v)), .int (nI (2))] [.int (nI (lv z v))] lk_5_62 dc_X5_barred_8 rfl rfl (s_ofVolume _ v 2 (by omega) (by omega)) (by first | rfl | (simp only [nI_add, pk_mul]; first | done | rfl)) rfl ?_
    refine AR.top hl ?_
    refine AR.ge2N (tgt := 38) (a := lv z v) (b := (lv z v)) dc_X5_barred_11 (by decide) (by first | rfl | (simp only [nI_add, pk_mul]; first | done | rfl)) (by first | rfl | (simp only [nI_add, pk_mul]; first | done | rfl)) (by omega) (by omega) (fun c11_5 => ?_) (fun c11_5 => absurd c11_5 (by omega))
    refine AR.run g_X5_barred_38_1 39 [some (.ref 16384), some (.int (nI (v))), some (.int (L_5barred_4 v z (lv z v))), some (.int (nI (lv z v)))] [.int (L_5barred_4 v z (lv z v))] _ [] rfl trivial ?_
    exact AR.retI dc_X5_barred_39 rfl rfl rfl
theorem g_X5_toScan_0_3 : ab_oks M_X5_toScan [(0, .aload_n 0, 1, 0, 0, 0, .null), (1, .iload_n 1, 1, 1, 0, 0, .null), (2, .iconst 2, 1, 0, 0, 0, .int (nI (2)))] = true := by decide +kernel
theorem dc_X5_toScan_3 : decode (AM.bytes M_X5_toScan) 3 = .ok (.invokevirtual 62, 3) := by decide +kernel
theorem g_X5_toScan_6_3 : ab_oks M_X5_toScan [(6, .aload_n 0, 1, 0, 0, 0, .null), (7, .iload_n 1, 1, 1, 0, 0, .null), (8, .iconst 1, 1, 0, 0, 0, .int (nI (1)))] = true := by decide +kernel
theorem lk_5_115 : ab_lkV "LeafCradlesModel" 115 M_X5_leavesWith 2 [1107, 1109, 52, 97, 1110] = true := by decide +kernel
theorem dc_X5_toScan_9 : decode (AM.bytes M_X5_toScan) 9 = .ok (.invokevirtual 115, 3) := by decide +kernel
theorem g_X5_toScan_12_1 : ab_oks M_X5_toScan [(12, .isub, 1, 0, 0, 0, .null)] = true := by decide +kernel
theorem dc_X5_toScan_13 : decode (AM.bytes M_X5_toScan) 13 = .ok (.ireturn, 1) := by decide +kernel
set_option maxRecDepth 100000 in
set_option maxHeartbeats 4000000 in
theorem s_5toScan {E : AE} (d : Nat) (v : Nat)  {o0 a0 t0 p0 u0 l0 : List AC} {z sa ro te fr to un ga pi be : Nat → Int32} {bm en sta sv ln th : Int32} {hh : Int64} (hv : v < 12) (hl : z (11 + 7 * v + 2) = nI (lv z v)) (h40 : lv z v ≤ 40) : CT E M_X5_toScan (d + 2) [.ref 16384, .int (nI (v))] (hp o0 a0 t0 p0 (mo z sa ro te fr to un ga pi be bm en sta sv ln th hh) u0 l0) (.inl (some (.int ((nI ((lv z v))) - (L_5leavesWith_5 v (nI (1)) z (lv z v)))))) (hp o0 a0 t0 p0 (mo z sa ro te fr to un ga pi be bm en sta sv ln th hh) u0 l0) 0 0 := by
  refine CT.of (L := [some (.ref 16384), some (.int (nI (v)))]) rfl rfl ?_
  refine AR.run g_X5_toScan_0_3 3 [some (.ref 16384), some (.int (nI (v)))] [.int (nI (2)), .int (nI (v)), .ref 16384] _ [] rfl trivial ?_
  refine AR.callV1 (16384) [.int (nI (v)), .int (nI (2))] [] lk_5_62 dc_X5_toScan_3 rfl rfl (s_ofVolume _ v 2 (by omega) (by omega)) (by first | rfl | (simp only [nI_add, pk_mul]; first | done | rfl)) rfl ?_
  refine AR.top hl ?_
  refine AR.run g_X5_toScan_6_3 9 [some (.ref 16384), some (.int (nI (v)))] [.int (nI (1)), .int (nI (v)), .ref 16384, .int (nI ((lv z v)))] _ [] rfl trivial ?_
  refine AR.callV1 (16384) [.int (nI (v)), .int (nI (1))] [.int (nI ((lv z v)))] lk_5_115 dc_X5_toScan_9 rfl rfl (s_5leavesWith _ v (nI (1)) (by omega) (by first | assumption | exact (hLV v (by omega)).1) (by first | assumption | exact (hLV v (by omega)).2)) (by first | rfl | (simp only [nI_add, pk_mul]; first | done | rfl)) rfl ?_
  refine AR.run g_X5_toScan_12_1 13 [some (.ref 16384), some (.int (nI (v)))] [.int ((nI ((lv z v))) - (L_5leavesWith_5 v (nI (1)) z (lv z v)))] _ [] rfl trivial ?_
  exact AR.retI dc_X5_toScan_13 rfl rfl rfl
def F_5volumeNow (v : Nat) (w : Nat) (z : Nat → Int32) : Int32 := if w = 5 then ((z (11 + 7 * v + 5)) - (nI (1))) else if w = 6 then (z (11 + 7 * v + w)) else if w = 7 then (L_5leavesWith_5 v (nI (1)) z (lv z v)) else if w = 8 then (L_5leavesWith_5 v (nI (2)) z (lv z v)) else if w = 9 then (L_5open_4 v z (lv z v)) else if w = 10 then (oI (nlO z v (lv z v))) else if w = 11 then (L_5scanned_4 v z (lv z v)) else (z (11 + 7 * v + w))
theorem g_X5_volumeNow_0_1 : ab_oks M_X5_volumeNow [(0, .iload_n 2, 1, 2, 0, 0, .null)] = true := by decide +kernel
theorem dc_X5_volumeNow_1 : decode (AM.bytes M_X5_volumeNow) 1 = .ok (.tableswitch 84 5 11 #[43, 84, 52, 59, 66, 72, 78], 43) := by decide +kernel
theorem g_X5_volumeNow_44_3 : ab_oks M_X5_volumeNow [(44, .aload_n 0, 1, 0, 0, 0, .null), (45, .iload_n 1, 1, 1, 0, 0, .null), (46, .iconst 5, 1, 0, 0, 0, .int (nI (5)))] = true := by decide +kernel
theorem dc_X5_volumeNow_47 : decode (AM.bytes M_X5_volumeNow) 47 = .ok (.invokevirtual 62, 3) := by decide +kernel
theorem g_X5_volumeNow_50_2 : ab_oks M_X5_volumeNow [(50, .iconst 1, 1, 0, 0, 0, .int (nI (1))), (51, .isub, 1, 0, 0, 0, .null)] = true := by decide +kernel
theorem dc_X5_volumeNow_52 : decode (AM.bytes M_X5_volumeNow) 52 = .ok (.ireturn, 1) := by decide +kernel
theorem g_X5_volumeNow_85_3 : ab_oks M_X5_volumeNow [(85, .aload_n 0, 1, 0, 0, 0, .null), (86, .iload_n 1, 1, 1, 0, 0, .null), (87, .iload_n 2, 1, 2, 0, 0, .null)] = true := by decide +kernel
theorem dc_X5_volumeNow_88 : decode (AM.bytes M_X5_volumeNow) 88 = .ok (.invokevirtual 62, 3) := by decide +kernel
theorem dc_X5_volumeNow_91 : decode (AM.bytes M_X5_volumeNow) 91 = .ok (.ireturn, 1) := by decide +kernel
theorem g_X5_volumeNow_53_3 : ab_oks M_X5_volumeNow [(53, .aload_n 0, 1, 0, 0, 0, .null), (54, .iload_n 1, 1, 1, 0, 0, .null), (55, .iconst 1, 1, 0, 0, 0, .int (nI (1)))] = true := by decide +kernel
theorem dc_X5_volumeNow_56 : decode (AM.bytes M_X5_volumeNow) 56 = .ok (.invokevirtual 115, 3) := by decide +kernel
theorem dc_X5_volumeNow_59 : decode (AM.bytes M_X5_volumeNow) 59 = .ok (.ireturn, 1) := by decide +kernel
theorem g_X5_volumeNow_60_3 : ab_oks M_X5_volumeNow [(60, .aload_n 0, 1, 0, 0, 0, .null), (61, .iload_n 1, 1, 1, 0, 0, .null), (62, .iconst 2, 1, 0, 0, 0, .int (nI (2)))] = true := by decide +kernel
theorem dc_X5_volumeNow_63 : decode (AM.bytes M_X5_volumeNow) 63 = .ok (.invokevirtual 115, 3) := by decide +kernel
theorem dc_X5_volumeNow_66 : decode (AM.bytes M_X5_volumeNow) 66 = .ok (.ireturn, 1) := by decide +kernel
theorem g_X5_volumeNow_67_2 : ab_oks M_X5_volumeNow [(67, .aload_n 0, 1, 0, 0, 0, .null), (68, .iload_n 1, 1, 1, 0, 0, .null)] = true := by decide +kernel
theorem lk_5_155 : ab_lkV "LeafCradlesModel" 155 M_X5_open 1 [1171, 1173, 62, 97, 1174] = true := by decide +kernel
theorem dc_X5_volumeNow_69 : decode (AM.bytes M_X5_volumeNow) 69 = .ok (.invokevirtual 155, 3) := by decide +kernel
theorem dc_X5_volumeNow_72 : decode (AM.bytes M_X5_volumeNow) 72 = .ok (.ireturn, 1) := by decide +kernel
theorem g_X5_volumeNow_73_2 : ab_oks M_X5_volumeNow [(73, .aload_n 0, 1, 0, 0, 0, .null), (74, .iload_n 1, 1, 1, 0, 0, .null)] = true := by decide +kernel
theorem dc_X5_volumeNow_75 : decode (AM.bytes M_X5_volumeNow) 75 = .ok (.invokevirtual 75, 3) := by decide +kernel
theorem dc_X5_volumeNow_78 : decode (AM.bytes M_X5_volumeNow) 78 = .ok (.ireturn, 1) := by decide +kernel
theorem g_X5_volumeNow_79_2 : ab_oks M_X5_volumeNow [(79, .aload_n 0, 1, 0, 0, 0, .null), (80, .iload_n 1, 1, 1, 0, 0, .null)] = true := by decide +kernel
theorem lk_5_158 : ab_lkV "LeafCradlesModel" 158 M_X5_scanned 1 [1179, 1181, 64, 97, 1182] = true := by decide +kernel
theorem dc_X5_volumeNow_81 : decode (AM.bytes M_X5_volumeNow) 81 = .ok (.invokevirtual 158, 3) := by decide +kernel
theorem dc_X5_volumeNow_84 : decode (AM.bytes M_X5_volumeNow) 84 = .ok (.ireturn, 1) := by decide +kernel
set_option maxRecDepth 100000 in
set_option maxHeartbeats 4000000 in
theorem s_5volumeNow {E : AE} (d : Nat) (v : Nat) (w : Nat)  {o0 a0 t0 p0 u0 l0 : List AC} {z sa ro te fr to un ga pi be : Nat → Int32} {bm en sta sv ln th : Int32} {hh : Int64} (hv : v < 12) (hl : z (11 + 7 * v + 2) = nI (lv z v)) (h40 : lv z v ≤ 40) (hw : w < 12) : CT E M_X5_volumeNow (d + 3) [.ref 16384, .int (nI (v)), .int (nI (w))] (hp o0 a0 t0 p0 (mo z sa ro te fr to un ga pi be bm en sta sv ln th hh) u0 l0) (.inl (some (.int (F_5volumeNow v w z)))) (hp o0 a0 t0 p0 (mo z sa ro te fr to un ga pi be bm en sta sv ln th hh) u0 l0) 0 0 := by
  refine CT.of (L := [some (.ref 16384), some (.int (nI (v))), some (.int (nI (w)))]) rfl rfl ?_
  refine AR.run g_X5_volumeNow_0_1 1 [some (.ref 16384), some (.int (nI (v))), some (.int (nI (w)))] [.int (nI (w))] _ [] rfl trivial ?_
  by_cases w1_1 : w = 5
  · refine AR.tswN (w := w) (tgt := 44) 5 dc_X5_volumeNow_1 (by first | rfl | (simp only [nI_add, pk_mul]; first | done | rfl)) w1_1 (by decide) 0 (by decide) (by decide) rfl (by decide) ?_
    refine AR.run g_X5_volumeNow_44_3 47 [some (.ref 16384), some (.int (nI (v))), some (.int (nI (w)))] [.int (nI (5)), .int (nI (v)), .ref 16384] _ [] rfl trivial ?_
    refine AR.callV1 (16384) [.int (nI (v)), .int (nI (5))] [] lk_5_62 dc_X5_volumeNow_47 rfl rfl (s_ofVolume _ v 5 (by omega) (by omega)) (by first | rfl | (simp only [nI_add, pk_mul]; first | done | rfl)) rfl ?_
    refine AR.run g_X5_volumeNow_50_2 52 [some (.ref 16384), some (.int (nI (v))), some (.int (nI (w)))] [.int ((z (11 + 7 * v + 5)) - (nI (1)))] _ [] rfl trivial ?_
    have e2_0 : F_5volumeNow v w z = ((z (11 + 7 * v + 5)) - (nI (1))) := by rw [F_5volumeNow, if_pos w1_1]
    exact AR.retI dc_X5_volumeNow_52 rfl e2_0.symm rfl
  · by_cases w1_3 : w = 6
    · refine AR.tswN (w := w) (tgt := 85) 6 dc_X5_volumeNow_1 (by first | rfl | (simp only [nI_add, pk_mul]; first | done | rfl)) w1_3 (by decide) 1 (by decide) (by decide) rfl (by decide) ?_
      refine AR.run g_X5_volumeNow_85_3 88 [some (.ref 16384), some (.int (nI (v))), some (.int (nI (w)))] [.int (nI (w)), .int (nI (v)), .ref 16384] _ [] rfl trivial ?_
      refine AR.callV1 (16384) [.int (nI (v)), .int (nI (w))] [] lk_5_62 dc_X5_volumeNow_88 rfl rfl (s_ofVolume _ v w (by omega) (by omega)) (by first | rfl | (simp only [nI_add, pk_mul]; first | done | rfl)) rfl ?_
      have e4_0 : F_5volumeNow v w z = (z (11 + 7 * v + w)) := by rw [F_5volumeNow, if_neg w1_1, if_pos w1_3]
      exact AR.retI dc_X5_volumeNow_91 rfl e4_0.symm rfl
    · by_cases w1_5 : w = 7
      · refine AR.tswN (w := w) (tgt := 53) 7 dc_X5_volumeNow_1 (by first | rfl | (simp only [nI_add, pk_mul]; first | done | rfl)) w1_5 (by decide) 2 (by decide) (by decide) rfl (by decide) ?_
        refine AR.run g_X5_volumeNow_53_3 56 [some (.ref 16384), some (.int (nI (v))), some (.int (nI (w)))] [.int (nI (1)), .int (nI (v)), .ref 16384] _ [] rfl trivial ?_
        refine AR.callV1 (16384) [.int (nI (v)), .int (nI (1))] [] lk_5_115 dc_X5_volumeNow_56 rfl rfl (s_5leavesWith _ v (nI (1)) (by omega) (by first | assumption | exact (hLV v (by omega)).1) (by first | assumption | exact (hLV v (by omega)).2)) (by first | rfl | (simp only [nI_add, pk_mul]; first | done | rfl)) rfl ?_
        have e6_0 : F_5volumeNow v w z = (L_5leavesWith_5 v (nI (1)) z (lv z v)) := by rw [F_5volumeNow, if_neg w1_1, if_neg w1_3, if_pos w1_5]
        exact AR.retI dc_X5_volumeNow_59 rfl e6_0.symm rfl
      · by_cases w1_7 : w = 8
        · refine AR.tswN (w := w) (tgt := 60) 8 dc_X5_volumeNow_1 (by first | rfl | (simp only [nI_add, pk_mul]; first | done | rfl)) w1_7 (by decide) 3 (by decide) (by decide) rfl (by decide) ?_
          refine AR.run g_X5_volumeNow_60_3 63 [some (.ref 16384), some (.int (nI (v))), some (.int (nI (w)))] [.int (nI (2)), .int (nI (v)), .ref 16384] _ [] rfl trivial ?_
          refine AR.callV1 (16384) [.int (nI (v)), .int (nI (2))] [] lk_5_115 dc_X5_volumeNow_63 rfl rfl (s_5leavesWith _ v (nI (2)) (by omega) (by first | assumption | exact (hLV v (by omega)).1) (by first | assumption | exact (hLV v (by omega)).2)) (by first | rfl | (simp only [nI_add, pk_mul]; first | done | rfl)) rfl ?_
          have e8_0 : F_5volumeNow v w z = (L_5leavesWith_5 v (nI (2)) z (lv z v)) := by rw [F_5volumeNow, if_neg w1_1, if_neg w1_3, if_neg w1_5, if_pos w1_7]
          exact AR.retI dc_X5_volumeNow_66 rfl e8_0.symm rfl
        · by_cases w1_9 : w = 9
          · refine AR.tswN (w := w) (tgt := 67) 9 dc_X5_volumeNow_1 (by first | rfl | (simp only [nI_add, pk_mul]; first | done | rfl)) w1_9 (by decide) 4 (by decide) (by decide) rfl (by decide) ?_
            refine AR.run g_X5_volumeNow_67_2 69 [some (.ref 16384), some (.int (nI (v))), some (.int (nI (w)))] [.int (nI (v)), .ref 16384] _ [] rfl trivial ?_
            refine AR.callV1 (16384) [.int (nI (v))] [] lk_5_155 dc_X5_volumeNow_69 rfl rfl (s_5open _ v (by omega) (by first | assumption | exact (hLV v (by omega)).1) (by first | assumption | exact (hLV v (by omega)).2)) (by first | rfl | (simp only [nI_add, pk_mul]; first | done | rfl)) rfl ?_
            have e10_0 : F_5volumeNow v w z = (L_5open_4 v z (lv z v)) := by rw [F_5volumeNow, if_neg w1_1, if_neg w1_3, if_neg w1_5, if_neg w1_7, if_pos w1_9]
            exact AR.retI dc_X5_volumeNow_72 rfl e10_0.symm rfl
          · by_cases w1_11 : w = 10
            · refine AR.tswN (w := w) (tgt := 73) 10 dc_X5_volumeNow_1 (by first | rfl | (simp only [nI_add, pk_mul]; first | done | rfl)) w1_11 (by decide) 5 (by decide) (by decide) rfl (by decide) ?_
              refine AR.run g_X5_volumeNow_73_2 75 [some (.ref 16384), some (.int (nI (v))), some (.int (nI (w)))] [.int (nI (v)), .ref 16384] _ [] rfl trivial ?_
              refine AR.callV1 (16384) [.int (nI (v))] [] lk_5_75 dc_X5_volumeNow_75 rfl rfl (s_nextLeaf _ v (by omega) (by first | assumption | exact (hLV v (by omega)).1) (by first | assumption | exact (hLV v (by omega)).2)) (by first | rfl | (simp only [nI_add, pk_mul]; first | done | rfl)) rfl ?_
              have e12_0 : F_5volumeNow v w z = (oI (nlO z v (lv z v))) := by rw [F_5volumeNow, if_neg w1_1, if_neg w1_3, if_neg w1_5, if_neg w1_7, if_neg w1_9, if_pos w1_11]
              exact AR.retI dc_X5_volumeNow_78 rfl e12_0.symm rfl
            · by_cases w1_13 : w = 11
              · refine AR.tswN (w := w) (tgt := 79) 11 dc_X5_volumeNow_1 (by first | rfl | (simp only [nI_add, pk_mul]; first | done | rfl)) w1_13 (by decide) 6 (by decide) (by decide) rfl (by decide) ?_
                refine AR.run g_X5_volumeNow_79_2 81 [some (.ref 16384), some (.int (nI (v))), some (.int (nI (w)))] [.int (nI (v)), .ref 16384] _ [] rfl trivial ?_
                refine AR.callV1 (16384) [.int (nI (v))] [] lk_5_158 dc_X5_volumeNow_81 rfl rfl (s_5scanned _ v (by omega) (by first | assumption | exact (hLV v (by omega)).1) (by first | assumption | exact (hLV v (by omega)).2)) (by first | rfl | (simp only [nI_add, pk_mul]; first | done | rfl)) rfl ?_
                have e14_0 : F_5volumeNow v w z = (L_5scanned_4 v z (lv z v)) := by rw [F_5volumeNow, if_neg w1_1, if_neg w1_3, if_neg w1_5, if_neg w1_7, if_neg w1_9, if_neg w1_11, if_pos w1_13]
                exact AR.retI dc_X5_volumeNow_84 rfl e14_0.symm rfl
              · refine AR.tswdN (w := w) (tgt := 85) dc_X5_volumeNow_1 (by first | rfl | (simp only [nI_add, pk_mul]; first | done | rfl)) (by omega) (by omega) (by decide) ?_
                refine AR.run g_X5_volumeNow_85_3 88 [some (.ref 16384), some (.int (nI (v))), some (.int (nI (w)))] [.int (nI (w)), .int (nI (v)), .ref 16384] _ [] rfl trivial ?_
                refine AR.callV1 (16384) [.int (nI (v)), .int (nI (w))] [] lk_5_62 dc_X5_volumeNow_88 rfl rfl (s_ofVolume _ v w (by omega) (by omega)) (by first | rfl | (simp only [nI_add, pk_mul]; first | done | rfl)) rfl ?_
                have e15_0 : F_5volumeNow v w z = (z (11 + 7 * v + w)) := by rw [F_5volumeNow, if_neg w1_1, if_neg w1_3, if_neg w1_5, if_neg w1_7, if_neg w1_9, if_neg w1_11, if_neg w1_13]
                exact AR.retI dc_X5_volumeNow_91 rfl e15_0.symm rfl
def F_5leafNow (v : Nat) (k : Nat) (w : Nat) (z : Nat → Int32) : Int32 := if 3 ≤ w then if (F_5isOpen v k z) = 0 then (nI (0)) else (nI (1)) else (z (423 + 3 * (40 * v + k) + w))
theorem g_X5_leafNow_0_2 : ab_oks M_X5_leafNow [(0, .iload_n 3, 1, 3, 0, 0, .null), (1, .iconst 3, 1, 0, 0, 0, .int (nI (3)))] = true := by decide +kernel
theorem dc_X5_leafNow_2 : decode (AM.bytes M_X5_leafNow) 2 = .ok (.if_icmp .ge 13, 3) := by decide +kernel
theorem g_X5_leafNow_15_3 : ab_oks M_X5_leafNow [(15, .aload_n 0, 1, 0, 0, 0, .null), (16, .iload_n 1, 1, 1, 0, 0, .null), (17, .iload_n 2, 1, 2, 0, 0, .null)] = true := by decide +kernel
theorem dc_X5_leafNow_18 : decode (AM.bytes M_X5_leafNow) 18 = .ok (.invokevirtual 152, 3) := by decide +kernel
theorem dc_X5_leafNow_21 : decode (AM.bytes M_X5_leafNow) 21 = .ok (.ifCond .eq 7, 3) := by decide +kernel
theorem g_X5_leafNow_28_1 : ab_oks M_X5_leafNow [(28, .iconst 0, 1, 0, 0, 0, .int (nI (0)))] = true := by decide +kernel
theorem dc_X5_leafNow_29 : decode (AM.bytes M_X5_leafNow) 29 = .ok (.ireturn, 1) := by decide +kernel
theorem g_X5_leafNow_24_2 : ab_oks M_X5_leafNow [(24, .iconst 1, 1, 0, 0, 0, .int (nI (1))), (25, .goto 4, 3, 29, 0, 0, .null)] = true := by decide +kernel
theorem g_X5_leafNow_5_4 : ab_oks M_X5_leafNow [(5, .aload_n 0, 1, 0, 0, 0, .null), (6, .iload_n 1, 1, 1, 0, 0, .null), (7, .iload_n 2, 1, 2, 0, 0, .null), (8, .iload_n 3, 1, 3, 0, 0, .null)] = true := by decide +kernel
theorem dc_X5_leafNow_9 : decode (AM.bytes M_X5_leafNow) 9 = .ok (.invokevirtual 65, 3) := by decide +kernel
theorem g_X5_leafNow_12_1 : ab_oks M_X5_leafNow [(12, .goto 17, 3, 29, 0, 0, .null)] = true := by decide +kernel
set_option maxRecDepth 100000 in
set_option maxHeartbeats 4000000 in
theorem s_5leafNow {E : AE} (d : Nat) (v : Nat) (k : Nat) (w : Nat)  {o0 a0 t0 p0 u0 l0 : List AC} {z sa ro te fr to un ga pi be : Nat → Int32} {bm en sta sv ln th : Int32} {hh : Int64} (hv : v < 12) (hk : k < 40) (hw : w < 4) : CT E M_X5_leafNow (d + 2) [.ref 16384, .int (nI (v)), .int (nI (k)), .int (nI (w))] (hp o0 a0 t0 p0 (mo z sa ro te fr to un ga pi be bm en sta sv ln th hh) u0 l0) (.inl (some (.int (F_5leafNow v k w z)))) (hp o0 a0 t0 p0 (mo z sa ro te fr to un ga pi be bm en sta sv ln th hh) u0 l0) 0 0 := by
  refine CT.of (L := [some (.ref 16384), some (.int (nI (v))), some (.int (nI (k))), some (.int (nI (w)))]) rfl rfl ?_
  refine AR.run g_X5_leafNow_0_2 2 [some (.ref 16384), some (.int (nI (v))), some (.int (nI (k))), some (.int (nI (w)))] [.int (nI (3)), .int (nI (w))] _ [] rfl trivial ?_
  refine AR.ge2N (tgt := 15) (a := w) (b := 3) dc_X5_leafNow_2 (by decide) (by first | rfl | (simp only [nI_add, pk_mul]; first | done | rfl)) (by first | rfl | (simp only [nI_add, pk_mul]; first | done | rfl)) (by omega) (by omega) (fun c2_1 => ?_) (fun c2_1 => ?_)
  · refine AR.run g_X5_leafNow_15_3 18 [some (.ref 16384), some (.int (nI (v))), some (.int (nI (k))), some (.int (nI (w)))] [.int (nI (k)), .int (nI (v)), .ref 16384] _ [] rfl trivial ?_
    refine AR.callV1 (16384) [.int (nI (v)), .int (nI (k))] [] lk_5_152 dc_X5_leafNow_18 rfl rfl (s_5isOpen _ v k (by omega) (by omega)) (by first | rfl | (simp only [nI_add, pk_mul]; first | done | rfl)) rfl ?_
    refine AR.eq (tgt := 28) dc_X5_leafNow_21 (by decide) (fun c21_2 => ?_) (fun c21_2 => ?_)
    · refine AR.run g_X5_leafNow_28_1 29 [some (.ref 16384), some (.int (nI (v))), some (.int (nI (k))), some (.int (nI (w)))] [.int (nI (0))] _ [] rfl trivial ?_
      have e3_0 : F_5leafNow v k w z = (nI (0)) := by rw [F_5leafNow, if_pos (show 3 ≤ w from by omega), if_pos c21_2]
      exact AR.retI dc_X5_leafNow_29 rfl e3_0.symm rfl
    · refine AR.run g_X5_leafNow_24_2 29 [some (.ref 16384), some (.int (nI (v))), some (.int (nI (k))), some (.int (nI (w)))] [.int (nI (1))] _ [] rfl trivial ?_
      have e4_0 : F_5leafNow v k w z = (nI (1)) := by rw [F_5leafNow, if_pos (show 3 ≤ w from by omega), if_neg c21_2]
      exact AR.retI dc_X5_leafNow_29 rfl e4_0.symm rfl
  · refine AR.run g_X5_leafNow_5_4 9 [some (.ref 16384), some (.int (nI (v))), some (.int (nI (k))), some (.int (nI (w)))] [.int (nI (w)), .int (nI (k)), .int (nI (v)), .ref 16384] _ [] rfl trivial ?_
    refine AR.callV1 (16384) [.int (nI (v)), .int (nI (k)), .int (nI (w))] [] lk_5_65 dc_X5_leafNow_9 rfl rfl (s_ofLeaf _ v k w (by omega) (by omega) (by omega)) (by first | rfl | (simp only [nI_add, pk_mul]; first | done | rfl)) rfl ?_
    refine AR.run g_X5_leafNow_12_1 29 [some (.ref 16384), some (.int (nI (v))), some (.int (nI (k))), some (.int (nI (w)))] [.int (z (423 + 3 * (40 * v + k) + w))] _ [] rfl trivial ?_
    have e5_0 : F_5leafNow v k w z = (z (423 + 3 * (40 * v + k) + w)) := by rw [F_5leafNow, if_neg (show ¬ (3 ≤ w) from by omega)]
    exact AR.retI dc_X5_leafNow_29 rfl e5_0.symm rfl
