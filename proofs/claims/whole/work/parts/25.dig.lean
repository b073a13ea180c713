theorem g_Jxe99ae_isNaN_b9ae7_0_3 : ab_oks M_Jxe99ae_isNaN_b9ae7 [(0, .dload_n 0, 1, 0, 0, 0, .null), (1, .dload_n 0, 1, 0, 0, 0, .null), (2, .dcmp .l, 1, 0, 0, 0, .null)] = true := by decide +kernel
theorem dc_Jxe99ae_isNaN_b9ae7_3 : decode (AM.bytes M_Jxe99ae_isNaN_b9ae7) 3 = .ok (.ifCond .eq 7, 3) := by decide +kernel
theorem g_Jxe99ae_isNaN_b9ae7_10_1 : ab_oks M_Jxe99ae_isNaN_b9ae7 [(10, .iconst 0, 1, 0, 0, 0, .int (nI (0)))] = true := by decide +kernel
theorem dc_Jxe99ae_isNaN_b9ae7_11 : decode (AM.bytes M_Jxe99ae_isNaN_b9ae7) 11 = .ok (.ireturn, 1) := by decide +kernel
set_option maxRecDepth 100000 in
set_option maxHeartbeats 4000000 in
theorem s_LisNaN_b9ae7 {E : AE} (d : Nat) (v : UInt64)  {h : AH} (hv : Op.cmpValue (FP.dcmp v v) .l = 0) : CT E M_Jxe99ae_isNaN_b9ae7 d [.double (v)] h (.inl (some (.int (nI (0))))) h 0 0 := by
  refine CT.of (L := [some (.double (v)), none]) rfl rfl ?_
  refine AR.run g_Jxe99ae_isNaN_b9ae7_0_3 3 [some (.double (v)), none] [.int (Op.cmpValue (FP.dcmp v v) .l)] _ [] rfl trivial ?_
  refine AR.eq (tgt := 10) dc_Jxe99ae_isNaN_b9ae7_3 (by decide) (fun c3_1 => ?_) (fun c3_1 => absurd c3_1 (fun q => q hv))
  refine AR.run g_Jxe99ae_isNaN_b9ae7_10_1 11 [some (.double (v)), none] [.int (nI (0))] _ [] rfl trivial ?_
  exact AR.retZ dc_Jxe99ae_isNaN_b9ae7_11 rfl (Or.inl rfl) rfl rfl
theorem g_Jxe99ae_doubleToLongBits_ccdee_0_1 : ab_oks M_Jxe99ae_doubleToLongBits_ccdee [(0, .dload_n 0, 1, 0, 0, 0, .null)] = true := by decide +kernel
theorem lk_J_122 : ab_lkS "java/lang/Double" 122 M_Jxe99ae_isNaN_b9ae7 1 [1344, 1345, 105, 1346] = true := by decide +kernel
theorem dc_Jxe99ae_doubleToLongBits_ccdee_1 : decode (AM.bytes M_Jxe99ae_doubleToLongBits_ccdee) 1 = .ok (.invokestatic 122, 3) := by decide +kernel
theorem dc_Jxe99ae_doubleToLongBits_ccdee_4 : decode (AM.bytes M_Jxe99ae_doubleToLongBits_ccdee) 4 = .ok (.ifCond .ne 8, 3) := by decide +kernel
theorem g_Jxe99ae_doubleToLongBits_ccdee_7_2 : ab_oks M_Jxe99ae_doubleToLongBits_ccdee [(7, .dload_n 0, 1, 0, 0, 0, .null), (8, .invokestatic 134, 3, 6, 0, 1347, .null)] = true := by decide +kernel
theorem dc_Jxe99ae_doubleToLongBits_ccdee_11 : decode (AM.bytes M_Jxe99ae_doubleToLongBits_ccdee) 11 = .ok (.lreturn, 1) := by decide +kernel
set_option maxRecDepth 100000 in
set_option maxHeartbeats 4000000 in
theorem s_LdoubleToLongBits_ccdee {E : AE} (d : Nat) (v : UInt64)  {h : AH} (hv : Op.cmpValue (FP.dcmp v v) .l = 0) : CT E M_Jxe99ae_doubleToLongBits_ccdee (d + 1) [.double (v)] h (.inl (some (.long (v.toInt64)))) h 0 0 := by
  refine CT.of (L := [some (.double (v)), none]) rfl rfl ?_
  refine AR.run g_Jxe99ae_doubleToLongBits_ccdee_0_1 1 [some (.double (v)), none] [.double (v)] _ [] rfl trivial ?_
  refine AR.callS1 [.double (v)] [] lk_J_122 dc_Jxe99ae_doubleToLongBits_ccdee_1 (s_LisNaN_b9ae7 _ v (by assumption)) (by first | rfl | (simp only [nI_add, pk_mul]; first | done | rfl)) rfl ?_
  refine AR.neN (tgt := 12) (a := 0) dc_Jxe99ae_doubleToLongBits_ccdee_4 (by decide) (by first | rfl | (simp only [nI_add, pk_mul]; first | done | rfl)) (by omega) (fun c4_1 => absurd c4_1 (by omega)) (fun c4_1 => ?_)
  refine AR.run g_Jxe99ae_doubleToLongBits_ccdee_7_2 11 [some (.double (v)), none] [.long (v.toInt64)] _ [] rfl trivial ?_
  exact AR.retL dc_Jxe99ae_doubleToLongBits_ccdee_11 rfl rfl rfl
def B_5mixAhead_17 (nv : Nat) (nc : Nat) (z : Nat → Int32) (ga : Nat → Int32) (pi : Nat → Int32) (be : Nat → Int32) (j17 : Nat) (y17_hh : Int64) : (Int64) := (F_5mix_hh ((F_5bestNow j17 (F_5layBest_be 20 nv nc z ga pi be) (F_5layBest_bm 20 nv nc z ga pi be)).toInt64) y17_hh)
def L_5mixAhead_17 (nv : Nat) (nc : Nat) (nr : Nat) (z : Nat → Int32) (sa : Nat → Int32) (ga : Nat → Int32) (pi : Nat → Int32) (be : Nat → Int32) (hh : Int64) : Nat → (Int64)
  | 0 => F_5mix_hh ((F_5doneNow nv nc nr z sa).toInt64) hh
  | j + 1 => B_5mixAhead_17 nv nc z ga pi be j (L_5mixAhead_17 nv nc nr z sa ga pi be hh  j)
def F_5mixAhead_sa (z : Nat → Int32) (sa : Nat → Int32) : Nat → Int32 := (F_5doneNow_sa z sa)
def F_5mixAhead_ga (nv : Nat) (nc : Nat) (z : Nat → Int32) (ga : Nat → Int32) : Nat → Int32 := (F_5layBest_ga 20 nv nc z ga)
def F_5mixAhead_pi (nv : Nat) (nc : Nat) (z : Nat → Int32) (ga : Nat → Int32) (pi : Nat → Int32) (be : Nat → Int32) : Nat → Int32 := (F_5layBest_pi 20 nv nc z ga pi be)
def F_5mixAhead_be (nv : Nat) (nc : Nat) (z : Nat → Int32) (ga : Nat → Int32) (pi : Nat → Int32) (be : Nat → Int32) : Nat → Int32 := (F_5layBest_be 20 nv nc z ga pi be)
def F_5mixAhead_bm (nv : Nat) (nc : Nat) (z : Nat → Int32) (ga : Nat → Int32) (pi : Nat → Int32) (be : Nat → Int32) : Int32 := (F_5layBest_bm 20 nv nc z ga pi be)
def F_5mixAhead_hh (nv : Nat) (nc : Nat) (nr : Nat) (z : Nat → Int32) (sa : Nat → Int32) (ga : Nat → Int32) (pi : Nat → Int32) (be : Nat → Int32) (sv : Int32) (hh : Int64) : Int64 := (F_5mix_hh ((F_5openNow nv nc z sv).toInt64) (L_5mixAhead_17 nv nc nr z sa ga pi be hh 5))
theorem g_X5_mixAhead_0_2 : ab_oks M_X5_mixAhead [(0, .aload_n 0, 1, 0, 0, 0, .null), (1, .aload_n 0, 1, 0, 0, 0, .null)] = true := by decide +kernel
theorem lk_5_197 : ab_lkV "LeafCradlesModel" 197 M_X5_doneNow 0 [1263, 1265, 75, 97, 1266] = true := by decide +kernel
theorem dc_X5_mixAhead_2 : decode (AM.bytes M_X5_mixAhead) 2 = .ok (.invokevirtual 197, 3) := by decide +kernel
theorem g_X5_mixAhead_5_1 : ab_oks M_X5_mixAhead [(5, .i2l, 1, 0, 0, 0, .null)] = true := by decide +kernel
theorem dc_X5_mixAhead_6 : decode (AM.bytes M_X5_mixAhead) 6 = .ok (.invokevirtual 241, 3) := by decide +kernel
theorem g_X5_mixAhead_9_2 : ab_oks M_X5_mixAhead [(9, .aload_n 0, 1, 0, 0, 0, .null), (10, .bipush 20, 2, 0, 0, 0, .int (nI (20)))] = true := by decide +kernel
theorem lk_5_225 : ab_lkV "LeafCradlesModel" 225 M_X5_layBest 1 [1283, 1285, 78, 97, 1286] = true := by decide +kernel
theorem dc_X5_mixAhead_12 : decode (AM.bytes M_X5_mixAhead) 12 = .ok (.invokevirtual 225, 3) := by decide +kernel
theorem g_X5_mixAhead_15_2 : ab_oks M_X5_mixAhead [(15, .iconst 0, 1, 0, 0, 0, .int (nI (0))), (16, .istore_n 1, 1, 1, 0, 0, .null)] = true := by decide +kernel
theorem g_X5_mixAhead_17_2 : ab_oks M_X5_mixAhead [(17, .iload_n 1, 1, 1, 0, 0, .null), (18, .iconst 5, 1, 0, 0, 0, .int (nI (5)))] = true := by decide +kernel
theorem dc_X5_mixAhead_19 : decode (AM.bytes M_X5_mixAhead) 19 = .ok (.if_icmp .ge 19, 3) := by decide +kernel
theorem g_X5_mixAhead_22_3 : ab_oks M_X5_mixAhead [(22, .aload_n 0, 1, 0, 0, 0, .null), (23, .aload_n 0, 1, 0, 0, 0, .null), (24, .iload_n 1, 1, 1, 0, 0, .null)] = true := by decide +kernel
theorem lk_5_228 : ab_lkV "LeafCradlesModel" 228 M_X5_bestNow 1 [1311, 1313, 85, 97, 1314] = true := by decide +kernel
theorem dc_X5_mixAhead_25 : decode (AM.bytes M_X5_mixAhead) 25 = .ok (.invokevirtual 228, 3) := by decide +kernel
theorem g_X5_mixAhead_28_1 : ab_oks M_X5_mixAhead [(28, .i2l, 1, 0, 0, 0, .null)] = true := by decide +kernel
theorem dc_X5_mixAhead_29 : decode (AM.bytes M_X5_mixAhead) 29 = .ok (.invokevirtual 241, 3) := by decide +kernel
theorem g_X5_mixAhead_32_2 : ab_oks M_X5_mixAhead [(32, .iinc 1 1, 3, 1, 0, 0, .int (nI (1))), (35, .goto (-18), 3, 17, 0, 0, .null)] = true := by decide +kernel
theorem g_X5_mixAhead_38_2 : ab_oks M_X5_mixAhead [(38, .aload_n 0, 1, 0, 0, 0, .null), (39, .aload_n 0, 1, 0, 0, 0, .null)] = true := by decide +kernel
theorem lk_5_231 : ab_lkV "LeafCradlesModel" 231 M_X5_openNow 0 [1319, 1321, 86, 97, 1322] = true := by decide +kernel
theorem dc_X5_mixAhead_40 : decode (AM.bytes M_X5_mixAhead) 40 = .ok (.invokevirtual 231, 3) := by decide +kernel
theorem lk_5_245 : ab_lkS "LeafCradlesModel" 245 M_Jxe99ae_doubleToLongBits_ccdee 1 [1341, 1342, 105, 1343] = true := by decide +kernel
theorem dc_X5_mixAhead_43 : decode (AM.bytes M_X5_mixAhead) 43 = .ok (.invokestatic 245, 3) := by decide +kernel
theorem dc_X5_mixAhead_46 : decode (AM.bytes M_X5_mixAhead) 46 = .ok (.invokevirtual 241, 3) := by decide +kernel
theorem dc_X5_mixAhead_49 : decode (AM.bytes M_X5_mixAhead) 49 = .ok (.return_, 1) := by decide +kernel
set_option maxRecDepth 100000 in
set_option maxHeartbeats 4000000 in
theorem s_5mixAhead {E : AE} (d : Nat) {nv : Nat} {nc : Nat} {nr : Nat} {ne : Nat}  {o0 a0 t0 p0 u0 l0 : List AC} {z sa ro te fr to un ga pi be : Nat → Int32} {bm en sta sv ln th : Int32} {hh : Int64} (hZ : ZI z nv nc nr ne) (hnan : ¬ F_5counted 6 nv nc z sv = 0 → vf_n64 (FP.ddiv (FP.i2d (F_5counted 9 nv nc z sv)) (FP.i2d (F_5counted 6 nv nc z sv)))) (hnn : Op.cmpValue (FP.dcmp (F_5openNow nv nc z sv) (F_5openNow nv nc z sv)) .l = 0) : CT E M_X5_mixAhead (d + 7) [.ref 16384] (hp o0 a0 t0 p0 (mo z sa ro te fr to un ga pi be bm en sta sv ln th hh) u0 l0) (.inl none) (hp o0 a0 t0 p0 (mo z (F_5mixAhead_sa z sa) ro te fr to un (F_5mixAhead_ga nv nc z ga) (F_5mixAhead_pi nv nc z ga pi be) (F_5mixAhead_be nv nc z ga pi be) (F_5mixAhead_bm nv nc z ga pi be) en sta sv ln th (F_5mixAhead_hh nv nc nr z sa ga pi be sv hh)) u0 l0) 0 0 := by
  obtain ⟨⟨hnv, h12⟩, ⟨hnc, h4⟩, ⟨hnr, h3⟩, ⟨hne, h60⟩, hLV⟩ := id hZ
  refine CT.of (L := [some (.ref 16384), none]) rfl rfl ?_
  refine AR.run g_X5_mixAhead_0_2 2 [some (.ref 16384), none] [.ref 16384, .ref 16384] _ [] rfl trivial ?_
  refine AR.callV1 (16384) [] [.ref 16384] lk_5_197 dc_X5_mixAhead_2 rfl rfl ((CT.hp (k := (hp o0 a0 t0 p0 (mo z (F_5doneNow_sa z sa) ro te fr to un ga pi be bm en sta sv ln th hh) u0 l0)) (s_5doneNow _  (by assumption)) (by rw [dN_back hZ]))) (by first | rfl | (simp only [nI_add, pk_mul]; first | done | rfl)) rfl ?_
  refine AR.run g_X5_mixAhead_5_1 6 [some (.ref 16384), none] [.long ((F_5doneNow nv nc nr z sa).toInt64), .ref 16384] _ [] rfl trivial ?_
  refine AR.callV0 (16384) [.long ((F_5doneNow nv nc nr z sa).toInt64)] [] lk_5_241 dc_X5_mixAhead_6 rfl rfl (s_5mix _ ((F_5doneNow nv nc nr z sa).toInt64) ) (by first | rfl | (simp only [nI_add, pk_mul]; first | done | rfl)) rfl ?_
  refine AR.run g_X5_mixAhead_9_2 12 [some (.ref 16384), none] [.int (nI (20)), .ref 16384] _ [] rfl trivial ?_
  refine AR.callV0 (16384) [.int (nI (20))] [] lk_5_225 dc_X5_mixAhead_12 rfl rfl (s_5layBest _ 20 (by assumption) (by omega) (by omega)) (by first | rfl | (simp only [nI_add, pk_mul]; first | done | rfl)) rfl ?_
  refine AR.run g_X5_mixAhead_15_2 17 [some (.ref 16384), some (.int (nI (0)))] [] _ [] rfl trivial ?_
  refine AR.cast (L' := [some (.ref 16384), some (.int (nI (0)))]) (by first | rfl | (rw [L_5mixAhead_17])) rfl (by first | rfl | (rw [L_5mixAhead_17])) (AR.loopN 5 (fun j17 => [some (.ref 16384), some (.int (nI (j17)))]) (fun j17 => (hp o0 a0 t0 p0 (mo z (F_5doneNow_sa z sa) ro te fr to un (F_5layBest_ga 20 nv nc z ga) (F_5layBest_pi 20 nv nc z ga pi be) (F_5layBest_be 20 nv nc z ga pi be) (F_5layBest_bm 20 nv nc z ga pi be) en sta sv ln th (L_5mixAhead_17 nv nc nr z sa ga pi be hh j17)) u0 l0)) (fun j17 => True) (fun j17 hj17 hI17 ih17 => ?_) (fun hI17 => ?_) 0 (by omega) (by first | trivial | omega))
  · refine AR.run g_X5_mixAhead_17_2 19 [some (.ref 16384), some (.int (nI (j17)))] [.int (nI (5)), .int (nI (j17))] _ [] rfl trivial ?_
    refine AR.ge2N (tgt := 38) (a := j17) (b := 5) dc_X5_mixAhead_19 (by decide) (by first | rfl | (simp only [nI_add, pk_mul]; first | done | rfl)) (by first | rfl | (simp only [nI_add, pk_mul]; first | done | rfl)) (by omega) (by omega) (fun c19_1 => absurd c19_1 (by omega)) (fun c19_1 => ?_)
    refine AR.run g_X5_mixAhead_22_3 25 [some (.ref 16384), some (.int (nI (j17)))] [.int (nI (j17)), .ref 16384, .ref 16384] _ [] rfl trivial ?_
    refine AR.callV1 (16384) [.int (nI (j17))] [.ref 16384] lk_5_228 dc_X5_mixAhead_25 rfl rfl (s_5bestNow _ j17 (by omega)) (by first | rfl | (simp only [nI_add, pk_mul]; first | done | rfl)) rfl ?_
    refine AR.run g_X5_mixAhead_28_1 29 [some (.ref 16384), some (.int (nI (j17)))] [.long ((F_5bestNow j17 (F_5layBest_be 20 nv nc z ga pi be) (F_5layBest_bm 20 nv nc z ga pi be)).toInt64), .ref 16384] _ [] rfl trivial ?_
    refine AR.callV0 (16384) [.long ((F_5bestNow j17 (F_5layBest_be 20 nv nc z ga pi be) (F_5layBest_bm 20 nv nc z ga pi be)).toInt64)] [] lk_5_241 dc_X5_mixAhead_29 rfl rfl (s_5mix _ ((F_5bestNow j17 (F_5layBest_be 20 nv nc z ga pi be) (F_5layBest_bm 20 nv nc z ga pi be)).toInt64) ) (by first | rfl | (simp only [nI_add, pk_mul]; first | done | rfl)) rfl ?_
    refine AR.run g_X5_mixAhead_32_2 17 [some (.ref 16384), some (.int ((nI (j17)) + (nI (1))))] [] _ [] rfl trivial ?_
    have e2 : L_5mixAhead_17 nv nc nr z sa ga pi be hh (j17 + 1) = (F_5mix_hh ((F_5bestNow j17 (F_5layBest_be 20 nv nc z ga pi be) (F_5layBest_bm 20 nv nc z ga pi be)).toInt64) (L_5mixAhead_17 nv nc nr z sa ga pi be hh j17)) := by rw [L_5mixAhead_17, B_5mixAhead_17]
    exact AR.cast (L' := [some (.ref 16384), some (.int (nI (j17 + 1)))]) (by first | rfl | (rw [nI_add]; done) | (rw [nI_add]; rfl)) rfl (by rw [e2]) (ih17 (by first | trivial | omega))
  · refine AR.run g_X5_mixAhead_17_2 19 [some (.ref 16384), some (.int (nI (5)))] [.int (nI (5)), .int (nI (5))] _ [] rfl trivial ?_
    refine AR.ge2N (tgt := 38) (a := 5) (b := 5) dc_X5_mixAhead_19 (by decide) (by first | rfl | (simp only [nI_add, pk_mul]; first | done | rfl)) (by first | rfl | (simp only [nI_add, pk_mul]; first | done | rfl)) (by omega) (by omega) (fun c19_3 => ?_) (fun c19_3 => absurd c19_3 (by omega))
    refine AR.run g_X5_mixAhead_38_2 40 [some (.ref 16384), some (.int (nI (5)))] [.ref 16384, .ref 16384] _ [] rfl trivial ?_
    refine AR.callV1 (16384) [] [.ref 16384] lk_5_231 dc_X5_mixAhead_40 rfl rfl (s_5openNow _  (by assumption) (by assumption)) (by first | rfl | (simp only [nI_add, pk_mul]; first | done | rfl)) rfl ?_
    refine AR.callS1 [.double (F_5openNow nv nc z sv)] [.ref 16384] lk_5_245 dc_X5_mixAhead_43 (s_LdoubleToLongBits_ccdee _ (F_5openNow nv nc z sv) (by assumption)) (by first | rfl | (simp only [nI_add, pk_mul]; first | done | rfl)) rfl ?_
    refine AR.callV0 (16384) [.long ((F_5openNow nv nc z sv).toInt64)] [] lk_5_241 dc_X5_mixAhead_46 rfl rfl (s_5mix _ ((F_5openNow nv nc z sv).toInt64) ) (by first | rfl | (simp only [nI_add, pk_mul]; first | done | rfl)) rfl ?_
    have e4_0 : F_5mixAhead_sa z sa = (F_5doneNow_sa z sa) := by rw [F_5mixAhead_sa]
    have e4_1 : F_5mixAhead_ga nv nc z ga = (F_5layBest_ga 20 nv nc z ga) := by rw [F_5mixAhead_ga]
    have e4_2 : F_5mixAhead_pi nv nc z ga pi be = (F_5layBest_pi 20 nv nc z ga pi be) := by rw [F_5mixAhead_pi]
    have e4_3 : F_5mixAhead_be nv nc z ga pi be = (F_5layBest_be 20 nv nc z ga pi be) := by rw [F_5mixAhead_be]
    have e4_4 : F_5mixAhead_bm nv nc z ga pi be = (F_5layBest_bm 20 nv nc z ga pi be) := by rw [F_5mixAhead_bm]
    have e4_5 : F_5mixAhead_hh nv nc nr z sa ga pi be sv hh = (F_5mix_hh ((F_5openNow nv nc z sv).toInt64) (L_5mixAhead_17 nv nc nr z sa ga pi be hh 5)) := by rw [F_5mixAhead_hh]
    exact AR.retV dc_X5_mixAhead_49 rfl (by rw [e4_0, e4_1, e4_2, e4_3, e4_4, e4_5])
def B_5digest_14 (nv : Nat) (nc : Nat) (z : Nat → Int32) (sv : Int32) (j14 : Nat) (y14_hh : Int64) : (Int64) := (F_5mix_hh ((F_5counted j14 nv nc z sv).toInt64) y14_hh)
def L_5digest_14 (nv : Nat) (nc : Nat) (z : Nat → Int32) (sv : Int32) : Nat → (Int64)
  | 0 => 2341
  | j + 1 => B_5digest_14 nv nc z sv j (L_5digest_14 nv nc z sv  j)
def B_5digest_38 (z : Nat → Int32) (j38 : Nat) (y38_hh : Int64) : (Int64) := (F_5mix_hh ((z (7 + j38)).toInt64) y38_hh)
def L_5digest_38 (nv : Nat) (nc : Nat) (z : Nat → Int32) (sv : Int32) : Nat → (Int64)
  | 0 => L_5digest_14 nv nc z sv 14
  | j + 1 => B_5digest_38 z j (L_5digest_38 nv nc z sv  j)
def B_5digest_65 (nr : Nat) (ne : Nat) (z : Nat → Int32) (j65 : Nat) (y65_hh : Int64) : (Int64) := (F_5mixVolume_hh j65 nr ne z y65_hh)
def L_5digest_65 (nv : Nat) (nc : Nat) (nr : Nat) (ne : Nat) (z : Nat → Int32) (sv : Int32) : Nat → (Int64)
  | 0 => L_5digest_38 nv nc z sv 4
  | j + 1 => B_5digest_65 nr ne z j (L_5digest_65 nv nc nr ne z sv  j)
def B_5digest_100 (nv : Nat) (z : Nat → Int32) (j88 : Nat) (j100 : Nat) (y100_hh : Int64) : (Int64) := (F_5mix_hh ((F_5cradleNow j88 j100 nv z).toInt64) y100_hh)
def L_5digest_100 (nv : Nat) (z : Nat → Int32) (j88 : Nat) (y88_hh : Int64) : Nat → (Int64)
  | 0 => y88_hh
  | j + 1 => B_5digest_100 nv z j88 j (L_5digest_100 nv z j88 y88_hh  j)
def B_5digest_88 (nv : Nat) (nc : Nat) (nr : Nat) (z : Nat → Int32) (j88 : Nat) (y88_hh : Int64) (y88_sa : Nat → Int32) : (Int64) × (Nat → Int32) := (F_5mix_hh ((F_5passedNow 30 (nI (j88)) nv nc nr z).toInt64) (L_5digest_100 nv z j88 y88_hh 6), F_5passedNow_sa z y88_sa)
def L_5digest_88 (nv : Nat) (nc : Nat) (nr : Nat) (ne : Nat) (z : Nat → Int32) (sa : Nat → Int32) (sv : Int32) : Nat → (Int64) × (Nat → Int32)
  | 0 => (L_5digest_65 nv nc nr ne z sv nv, sa)
  | j + 1 => B_5digest_88 nv nc nr z j ((L_5digest_88 nv nc nr ne z sa sv  j).1) ((L_5digest_88 nv nc nr ne z sa sv  j).2)
def B_5digest_155 (z : Nat → Int32) (j143 : Nat) (j155 : Nat) (y155_hh : Int64) : (Int64) := (F_5mix_hh ((z (111 + 4 * j143 + j155)).toInt64) y155_hh)
def L_5digest_155 (z : Nat → Int32) (j143 : Nat) (y143_hh : Int64) : Nat → (Int64)
  | 0 => y143_hh
  | j + 1 => B_5digest_155 z j143 j (L_5digest_155 z j143 y143_hh  j)
def B_5digest_143 (z : Nat → Int32) (j143 : Nat) (y143_hh : Int64) : (Int64) := (L_5digest_155 z j143 y143_hh 4)
def L_5digest_143 (nv : Nat) (nc : Nat) (nr : Nat) (ne : Nat) (z : Nat → Int32) (sa : Nat → Int32) (sv : Int32) : Nat → (Int64)
  | 0 => (L_5digest_88 nv nc nr ne z sa sv nc).1
  | j + 1 => B_5digest_143 z j (L_5digest_143 nv nc nr ne z sa sv  j)
def B_5digest_185 (z : Nat → Int32) (j185 : Nat) (y185_hh : Int64) : (Int64) := (F_5mix_hh ((z (123 + j185)).toInt64) y185_hh)
def L_5digest_185 (nv : Nat) (nc : Nat) (nr : Nat) (ne : Nat) (z : Nat → Int32) (sa : Nat → Int32) (sv : Int32) : Nat → (Int64)
  | 0 => L_5digest_143 nv nc nr ne z sa sv nr
  | j + 1 => B_5digest_185 z j (L_5digest_185 nv nc nr ne z sa sv  j)
def B_5digest_232 (te : Nat → Int32) (j232 : Nat) (y232_hh : Int64) : (Int64) := (F_5mix_hh ((te j232).toInt64) y232_hh)
def L_5digest_232 (nv : Nat) (nc : Nat) (nr : Nat) (ne : Nat) (q : Nat) (z : Nat → Int32) (sa : Nat → Int32) (te : Nat → Int32) (ga : Nat → Int32) (pi : Nat → Int32) (be : Nat → Int32) (sv : Int32) : Nat → (Int64)
  | 0 => F_5mix_hh ((nI (q)).toInt64) (F_5mixAhead_hh nv nc nr z ((L_5digest_88 nv nc nr ne z sa sv nc).2) ga pi be sv (L_5digest_185 nv nc nr ne z sa sv (5 * ne)))
  | j + 1 => B_5digest_232 te j (L_5digest_232 nv nc nr ne q z sa te ga pi be sv  j)
def F_5digest (nv : Nat) (nc : Nat) (nr : Nat) (ne : Nat) (q : Nat) (z : Nat → Int32) (sa : Nat → Int32) (te : Nat → Int32) (ga : Nat → Int32) (pi : Nat → Int32) (be : Nat → Int32) (sv : Int32) : Int64 := (L_5digest_232 nv nc nr ne q z sa te ga pi be sv q)
def F_5digest_sa (nv : Nat) (nc : Nat) (nr : Nat) (ne : Nat) (z : Nat → Int32) (sa : Nat → Int32) (sv : Int32) : Nat → Int32 := (F_5mixAhead_sa z ((L_5digest_88 nv nc nr ne z sa sv nc).2))
def F_5digest_ga (nv : Nat) (nc : Nat) (z : Nat → Int32) (ga : Nat → Int32) : Nat → Int32 := (F_5mixAhead_ga nv nc z ga)
def F_5digest_pi (nv : Nat) (nc : Nat) (z : Nat → Int32) (ga : Nat → Int32) (pi : Nat → Int32) (be : Nat → Int32) : Nat → Int32 := (F_5mixAhead_pi nv nc z ga pi be)
def F_5digest_be (nv : Nat) (nc : Nat) (z : Nat → Int32) (ga : Nat → Int32) (pi : Nat → Int32) (be : Nat → Int32) : Nat → Int32 := (F_5mixAhead_be nv nc z ga pi be)
def F_5digest_bm (nv : Nat) (nc : Nat) (z : Nat → Int32) (ga : Nat → Int32) (pi : Nat → Int32) (be : Nat → Int32) : Int32 := (F_5mixAhead_bm nv nc z ga pi be)
def F_5digest_th : Int32 := (nI (0))
def F_5digest_hh (nv : Nat) (nc : Nat) (nr : Nat) (ne : Nat) (q : Nat) (z : Nat → Int32) (sa : Nat → Int32) (te : Nat → Int32) (ga : Nat → Int32) (pi : Nat → Int32) (be : Nat → Int32) (sv : Int32) : Int64 := (L_5digest_232 nv nc nr ne q z sa te ga pi be sv q)
theorem g_X5_digest_0_8 : ab_oks M_X5_digest [(0, .aload_n 0, 1, 0, 0, 0, .null), (1, .iconst 0, 1, 0, 0, 0, .int (nI (0))), (2, .putfield 40, 3, 5, 15, 951, .null), (5, .aload_n 0, 1, 0, 0, 0, .null), (6, .ldc2_w 251, 3, 0, 0, 1327, .long (2341)), (9, .putfield 237, 3, 5, 16, 952, .null), (12, .iconst 0, 1, 0, 0, 0, .int (nI (0))), (13, .istore_n 1, 1, 1, 0, 0, .null)] = true := by decide +kernel
theorem g_X5_digest_14_2 : ab_oks M_X5_digest [(14, .iload_n 1, 1, 1, 0, 0, .null), (15, .bipush 14, 2, 0, 0, 0, .int (nI (14)))] = true := by decide +kernel
theorem dc_X5_digest_17 : decode (AM.bytes M_X5_digest) 17 = .ok (.if_icmp .ge 19, 3) := by decide +kernel
theorem g_X5_digest_20_3 : ab_oks M_X5_digest [(20, .aload_n 0, 1, 0, 0, 0, .null), (21, .aload_n 0, 1, 0, 0, 0, .null), (22, .iload_n 1, 1, 1, 0, 0, .null)] = true := by decide +kernel
theorem dc_X5_digest_23 : decode (AM.bytes M_X5_digest) 23 = .ok (.invokevirtual 179, 3) := by decide +kernel
theorem g_X5_digest_26_1 : ab_oks M_X5_digest [(26, .i2l, 1, 0, 0, 0, .null)] = true := by decide +kernel
theorem dc_X5_digest_27 : decode (AM.bytes M_X5_digest) 27 = .ok (.invokevirtual 241, 3) := by decide +kernel
theorem g_X5_digest_30_2 : ab_oks M_X5_digest [(30, .iinc 1 1, 3, 1, 0, 0, .int (nI (1))), (33, .goto (-19), 3, 14, 0, 0, .null)] = true := by decide +kernel
theorem g_X5_digest_36_2 : ab_oks M_X5_digest [(36, .iconst 0, 1, 0, 0, 0, .int (nI (0))), (37, .istore_n 1, 1, 1, 0, 0, .null)] = true := by decide +kernel
theorem g_X5_digest_38_2 : ab_oks M_X5_digest [(38, .iload_n 1, 1, 1, 0, 0, .null), (39, .iconst 4, 1, 0, 0, 0, .int (nI (4)))] = true := by decide +kernel
theorem dc_X5_digest_40 : decode (AM.bytes M_X5_digest) 40 = .ok (.if_icmp .ge 23, 3) := by decide +kernel
theorem g_X5_digest_43_6 : ab_oks M_X5_digest [(43, .aload_n 0, 1, 0, 0, 0, .null), (44, .aload_n 0, 1, 0, 0, 0, .null), (45, .getfield 7, 3, 5, 0, 936, .null), (48, .bipush 7, 2, 0, 0, 0, .int (nI (7))), (50, .iload_n 1, 1, 1, 0, 0, .null), (51, .iadd, 1, 0, 0, 0, .null)] = true := by decide +kernel
theorem ok_X5_digest_52 : ab_ok M_X5_digest (52, .iaload, 1, 0, 0, 0, .null) = true := by decide +kernel
theorem g_X5_digest_53_1 : ab_oks M_X5_digest [(53, .i2l, 1, 0, 0, 0, .null)] = true := by decide +kernel
theorem dc_X5_digest_54 : decode (AM.bytes M_X5_digest) 54 = .ok (.invokevirtual 241, 3) := by decide +kernel
theorem g_X5_digest_57_2 : ab_oks M_X5_digest [(57, .iinc 1 1, 3, 1, 0, 0, .int (nI (1))), (60, .goto (-22), 3, 38, 0, 0, .null)] = true := by decide +kernel
theorem g_X5_digest_63_2 : ab_oks M_X5_digest [(63, .iconst 0, 1, 0, 0, 0, .int (nI (0))), (64, .istore_n 1, 1, 1, 0, 0, .null)] = true := by decide +kernel
theorem g_X5_digest_65_4 : ab_oks M_X5_digest [(65, .iload_n 1, 1, 1, 0, 0, .null), (66, .aload_n 0, 1, 0, 0, 0, .null), (67, .getfield 7, 3, 5, 0, 936, .null), (70, .iconst 0, 1, 0, 0, 0, .int (nI (0)))] = true := by decide +kernel
theorem ok_X5_digest_71 : ab_ok M_X5_digest (71, .iaload, 1, 0, 0, 0, .null) = true := by decide +kernel
theorem dc_X5_digest_72 : decode (AM.bytes M_X5_digest) 72 = .ok (.if_icmp .ge 14, 3) := by decide +kernel
theorem g_X5_digest_75_2 : ab_oks M_X5_digest [(75, .aload_n 0, 1, 0, 0, 0, .null), (76, .iload_n 1, 1, 1, 0, 0, .null)] = true := by decide +kernel
theorem lk_5_253 : ab_lkV "LeafCradlesModel" 253 M_X5_mixVolume 1 [1333, 1335, 88, 97, 1336] = true := by decide +kernel
theorem dc_X5_digest_77 : decode (AM.bytes M_X5_digest) 77 = .ok (.invokevirtual 253, 3) := by decide +kernel
theorem g_X5_digest_80_2 : ab_oks M_X5_digest [(80, .iinc 1 1, 3, 1, 0, 0, .int (nI (1))), (83, .goto (-18), 3, 65, 0, 0, .null)] = true := by decide +kernel
theorem g_X5_digest_86_2 : ab_oks M_X5_digest [(86, .iconst 0, 1, 0, 0, 0, .int (nI (0))), (87, .istore_n 1, 1, 1, 0, 0, .null)] = true := by decide +kernel
theorem g_X5_digest_88_4 : ab_oks M_X5_digest [(88, .iload_n 1, 1, 1, 0, 0, .null), (89, .aload_n 0, 1, 0, 0, 0, .null), (90, .getfield 7, 3, 5, 0, 936, .null), (93, .iconst 1, 1, 0, 0, 0, .int (nI (1)))] = true := by decide +kernel
theorem ok_X5_digest_94 : ab_ok M_X5_digest (94, .iaload, 1, 0, 0, 0, .null) = true := by decide +kernel
theorem dc_X5_digest_95 : decode (AM.bytes M_X5_digest) 95 = .ok (.if_icmp .ge 46, 3) := by decide +kernel
theorem g_X5_digest_98_2 : ab_oks M_X5_digest [(98, .iconst 0, 1, 0, 0, 0, .int (nI (0))), (99, .istore_n 2, 1, 2, 0, 0, .null)] = true := by decide +kernel
theorem g_X5_digest_100_2 : ab_oks M_X5_digest [(100, .iload_n 2, 1, 2, 0, 0, .null), (101, .bipush 6, 2, 0, 0, 0, .int (nI (6)))] = true := by decide +kernel
theorem dc_X5_digest_103 : decode (AM.bytes M_X5_digest) 103 = .ok (.if_icmp .ge 20, 3) := by decide +kernel
theorem g_X5_digest_106_4 : ab_oks M_X5_digest [(106, .aload_n 0, 1, 0, 0, 0, .null), (107, .aload_n 0, 1, 0, 0, 0, .null), (108, .iload_n 1, 1, 1, 0, 0, .null), (109, .iload_n 2, 1, 2, 0, 0, .null)] = true := by decide +kernel
theorem lk_5_167 : ab_lkV "LeafCradlesModel" 167 M_X5_cradleNow 2 [1195, 1197, 66, 97, 1198] = true := by decide +kernel
theorem dc_X5_digest_110 : decode (AM.bytes M_X5_digest) 110 = .ok (.invokevirtual 167, 3) := by decide +kernel
theorem g_X5_digest_113_1 : ab_oks M_X5_digest [(113, .i2l, 1, 0, 0, 0, .null)] = true := by decide +kernel
theorem dc_X5_digest_114 : decode (AM.bytes M_X5_digest) 114 = .ok (.invokevirtual 241, 3) := by decide +kernel
theorem g_X5_digest_117_2 : ab_oks M_X5_digest [(117, .iinc 2 1, 3, 2, 0, 0, .int (nI (1))), (120, .goto (-20), 3, 100, 0, 0, .null)] = true := by decide +kernel
theorem g_X5_digest_123_4 : ab_oks M_X5_digest [(123, .aload_n 0, 1, 0, 0, 0, .null), (124, .aload_n 0, 1, 0, 0, 0, .null), (125, .bipush 30, 2, 0, 0, 0, .int (nI (30))), (127, .iload_n 1, 1, 1, 0, 0, .null)] = true := by decide +kernel
theorem lk_5_191 : ab_lkV "LeafCradlesModel" 191 M_X5_passedNow 2 [1243, 1245, 71, 97, 1246] = true := by decide +kernel
theorem dc_X5_digest_128 : decode (AM.bytes M_X5_digest) 128 = .ok (.invokevirtual 191, 3) := by decide +kernel
theorem g_X5_digest_131_1 : ab_oks M_X5_digest [(131, .i2l, 1, 0, 0, 0, .null)] = true := by decide +kernel
theorem dc_X5_digest_132 : decode (AM.bytes M_X5_digest) 132 = .ok (.invokevirtual 241, 3) := by decide +kernel
theorem g_X5_digest_135_2 : ab_oks M_X5_digest [(135, .iinc 1 1, 3, 1, 0, 0, .int (nI (1))), (138, .goto (-50), 3, 88, 0, 0, .null)] = true := by decide +kernel
theorem g_X5_digest_141_2 : ab_oks M_X5_digest [(141, .iconst 0, 1, 0, 0, 0, .int (nI (0))), (142, .istore_n 1, 1, 1, 0, 0, .null)] = true := by decide +kernel
theorem g_X5_digest_143_4 : ab_oks M_X5_digest [(143, .iload_n 1, 1, 1, 0, 0, .null), (144, .aload_n 0, 1, 0, 0, 0, .null), (145, .getfield 7, 3, 5, 0, 936, .null), (148, .iconst 2, 1, 0, 0, 0, .int (nI (2)))] = true := by decide +kernel
theorem ok_X5_digest_149 : ab_ok M_X5_digest (149, .iaload, 1, 0, 0, 0, .null) = true := by decide +kernel
theorem dc_X5_digest_150 : decode (AM.bytes M_X5_digest) 150 = .ok (.if_icmp .ge 33, 3) := by decide +kernel
theorem g_X5_digest_153_2 : ab_oks M_X5_digest [(153, .iconst 0, 1, 0, 0, 0, .int (nI (0))), (154, .istore_n 2, 1, 2, 0, 0, .null)] = true := by decide +kernel
theorem g_X5_digest_155_2 : ab_oks M_X5_digest [(155, .iload_n 2, 1, 2, 0, 0, .null), (156, .iconst 4, 1, 0, 0, 0, .int (nI (4)))] = true := by decide +kernel
theorem dc_X5_digest_157 : decode (AM.bytes M_X5_digest) 157 = .ok (.if_icmp .ge 20, 3) := by decide +kernel
theorem g_X5_digest_160_4 : ab_oks M_X5_digest [(160, .aload_n 0, 1, 0, 0, 0, .null), (161, .aload_n 0, 1, 0, 0, 0, .null), (162, .iload_n 1, 1, 1, 0, 0, .null), (163, .iload_n 2, 1, 2, 0, 0, .null)] = true := by decide +kernel
theorem dc_X5_digest_164 : decode (AM.bytes M_X5_digest) 164 = .ok (.invokevirtual 58, 3) := by decide +kernel
theorem g_X5_digest_167_1 : ab_oks M_X5_digest [(167, .i2l, 1, 0, 0, 0, .null)] = true := by decide +kernel
theorem dc_X5_digest_168 : decode (AM.bytes M_X5_digest) 168 = .ok (.invokevirtual 241, 3) := by decide +kernel
theorem g_X5_digest_171_2 : ab_oks M_X5_digest [(171, .iinc 2 1, 3, 2, 0, 0, .int (nI (1))), (174, .goto (-19), 3, 155, 0, 0, .null)] = true := by decide +kernel
theorem g_X5_digest_177_2 : ab_oks M_X5_digest [(177, .iinc 1 1, 3, 1, 0, 0, .int (nI (1))), (180, .goto (-37), 3, 143, 0, 0, .null)] = true := by decide +kernel
theorem g_X5_digest_183_2 : ab_oks M_X5_digest [(183, .iconst 0, 1, 0, 0, 0, .int (nI (0))), (184, .istore_n 1, 1, 1, 0, 0, .null)] = true := by decide +kernel
theorem g_X5_digest_185_5 : ab_oks M_X5_digest [(185, .iload_n 1, 1, 1, 0, 0, .null), (186, .iconst 5, 1, 0, 0, 0, .int (nI (5))), (187, .aload_n 0, 1, 0, 0, 0, .null), (188, .getfield 7, 3, 5, 0, 936, .null), (191, .iconst 5, 1, 0, 0, 0, .int (nI (5)))] = true := by decide +kernel
theorem ok_X5_digest_192 : ab_ok M_X5_digest (192, .iaload, 1, 0, 0, 0, .null) = true := by decide +kernel
theorem g_X5_digest_193_1 : ab_oks M_X5_digest [(193, .imul, 1, 0, 0, 0, .null)] = true := by decide +kernel
theorem dc_X5_digest_194 : decode (AM.bytes M_X5_digest) 194 = .ok (.if_icmp .ge 23, 3) := by decide +kernel
theorem g_X5_digest_197_6 : ab_oks M_X5_digest [(197, .aload_n 0, 1, 0, 0, 0, .null), (198, .aload_n 0, 1, 0, 0, 0, .null), (199, .getfield 7, 3, 5, 0, 936, .null), (202, .bipush 123, 2, 0, 0, 0, .int (nI (123))), (204, .iload_n 1, 1, 1, 0, 0, .null), (205, .iadd, 1, 0, 0, 0, .null)] = true := by decide +kernel
theorem ok_X5_digest_206 : ab_ok M_X5_digest (206, .iaload, 1, 0, 0, 0, .null) = true := by decide +kernel
theorem g_X5_digest_207_1 : ab_oks M_X5_digest [(207, .i2l, 1, 0, 0, 0, .null)] = true := by decide +kernel
theorem dc_X5_digest_208 : decode (AM.bytes M_X5_digest) 208 = .ok (.invokevirtual 241, 3) := by decide +kernel
theorem g_X5_digest_211_2 : ab_oks M_X5_digest [(211, .iinc 1 1, 3, 1, 0, 0, .int (nI (1))), (214, .goto (-29), 3, 185, 0, 0, .null)] = true := by decide +kernel
theorem g_X5_digest_217_1 : ab_oks M_X5_digest [(217, .aload_n 0, 1, 0, 0, 0, .null)] = true := by decide +kernel
theorem lk_5_256 : ab_lkV "LeafCradlesModel" 256 M_X5_mixAhead 0 [1337, 1339, 89, 97, 1340] = true := by decide +kernel
theorem dc_X5_digest_218 : decode (AM.bytes M_X5_digest) 218 = .ok (.invokevirtual 256, 3) := by decide +kernel
theorem g_X5_digest_221_3 : ab_oks M_X5_digest [(221, .aload_n 0, 1, 0, 0, 0, .null), (222, .aload_n 0, 1, 0, 0, 0, .null), (223, .getfield 118, 3, 5, 14, 950, .null)] = true := by decide +kernel
theorem g_X5_digest_226_1 : ab_oks M_X5_digest [(226, .i2l, 1, 0, 0, 0, .null)] = true := by decide +kernel
theorem dc_X5_digest_227 : decode (AM.bytes M_X5_digest) 227 = .ok (.invokevirtual 241, 3) := by decide +kernel
theorem g_X5_digest_230_2 : ab_oks M_X5_digest [(230, .iconst 0, 1, 0, 0, 0, .int (nI (0))), (231, .istore_n 1, 1, 1, 0, 0, .null)] = true := by decide +kernel
theorem g_X5_digest_232_3 : ab_oks M_X5_digest [(232, .iload_n 1, 1, 1, 0, 0, .null), (233, .aload_n 0, 1, 0, 0, 0, .null), (234, .getfield 118, 3, 5, 14, 950, .null)] = true := by decide +kernel
theorem dc_X5_digest_237 : decode (AM.bytes M_X5_digest) 237 = .ok (.if_icmp .ge 20, 3) := by decide +kernel
theorem g_X5_digest_240_4 : ab_oks M_X5_digest [(240, .aload_n 0, 1, 0, 0, 0, .null), (241, .aload_n 0, 1, 0, 0, 0, .null), (242, .getfield 19, 3, 5, 3, 939, .null), (245, .iload_n 1, 1, 1, 0, 0, .null)] = true := by decide +kernel
theorem ok_X5_digest_246 : ab_ok M_X5_digest (246, .iaload, 1, 0, 0, 0, .null) = true := by decide +kernel
theorem g_X5_digest_247_1 : ab_oks M_X5_digest [(247, .i2l, 1, 0, 0, 0, .null)] = true := by decide +kernel
theorem dc_X5_digest_248 : decode (AM.bytes M_X5_digest) 248 = .ok (.invokevirtual 241, 3) := by decide +kernel
theorem g_X5_digest_251_2 : ab_oks M_X5_digest [(251, .iinc 1 1, 3, 1, 0, 0, .int (nI (1))), (254, .goto (-22), 3, 232, 0, 0, .null)] = true := by decide +kernel
theorem g_X5_digest_257_2 : ab_oks M_X5_digest [(257, .aload_n 0, 1, 0, 0, 0, .null), (258, .getfield 237, 3, 5, 16, 952, .null)] = true := by decide +kernel
theorem dc_X5_digest_261 : decode (AM.bytes M_X5_digest) 261 = .ok (.lreturn, 1) := by decide +kernel
set_option maxRecDepth 100000 in
set_option maxHeartbeats 4000000 in
theorem s_5digest {E : AE} (d : Nat) {nv : Nat} {nc : Nat} {nr : Nat} {ne : Nat} {q : Nat}  {o0 a0 t0 p0 u0 l0 : List AC} {z sa ro te fr to un ga pi be : Nat → Int32} {bm en sta sv ln th : Int32} {hh : Int64} (hZ : ZI z nv nc nr ne) (hnan : ¬ F_5counted 6 nv nc z sv = 0 → vf_n64 (FP.ddiv (FP.i2d (F_5counted 9 nv nc z sv)) (FP.i2d (F_5counted 6 nv nc z sv)))) (hnn : Op.cmpValue (FP.dcmp (F_5openNow nv nc z sv) (F_5openNow nv nc z sv)) .l = 0) (hln : ln = nI q) (hq : q ≤ 60) : CT E M_X5_digest (d + 8) [.ref 16384] (hp o0 a0 t0 p0 (mo z sa ro te fr to un ga pi be bm en sta sv ln th hh) u0 l0) (.inl (some (.long (F_5digest nv nc nr ne q z sa te ga pi be sv)))) (hp o0 a0 t0 p0 (mo z (F_5digest_sa nv nc nr ne z sa sv) ro te fr to un (F_5digest_ga nv nc z ga) (F_5digest_pi nv nc z ga pi be) (F_5digest_be nv nc z ga pi be) (F_5digest_bm nv nc z ga pi be) en sta sv ln F_5digest_th (F_5digest_hh nv nc nr ne q z sa te ga pi be sv)) u0 l0) 0 0 := by
  obtain ⟨⟨hnv, h12⟩, ⟨hnc, h4⟩, ⟨hnr, h3⟩, ⟨hne, h60⟩, hLV⟩ := id hZ
  refine CT.of (L := [some (.ref 16384), none, none]) rfl rfl ?_
  refine AR.run g_X5_digest_0_8 14 [some (.ref 16384), some (.int (nI (0))), none] [] (hp o0 a0 t0 p0 (mo z sa ro te fr to un ga pi be bm en sta sv ln (nI (0)) 2341) u0 l0) [] rfl trivial ?_
  refine AR.cast (L' := [some (.ref 16384), some (.int (nI (0))), none]) (by first | rfl | (rw [L_5digest_14])) rfl (by first | rfl | (rw [L_5digest_14])) (AR.loopN 14 (fun j14 => [some (.ref 16384), some (.int (nI (j14))), none]) (fun j14 => (hp o0 a0 t0 p0 (mo z sa ro te fr to un ga pi be bm en sta sv ln (nI (0)) (L_5digest_14 nv nc z sv j14)) u0 l0)) (fun j14 => True) (fun j14 hj14 hI14 ih14 => ?_) (fun hI14 => ?_) 0 (by omega) (by first | trivial | omega))
  · refine AR.run g_X5_digest_14_2 17 [some (.ref 16384), some (.int (nI (j14))), none] [.int (nI (14)), .int (nI (j14))] _ [] rfl trivial ?_
    refine AR.ge2N (tgt := 36) (a := j14) (b := 14) dc_X5_digest_17 (by decide) (by first | rfl | (simp only [nI_add, pk_mul]; first | done | rfl)) (by first | rfl | (simp only [nI_add, pk_mul]; first | done | rfl)) (by omega) (by omega) (fun c17_1 => absurd c17_1 (by omega)) (fun c17_1 => ?_)
    refine AR.run g_X5_digest_20_3 23 [some (.ref 16384), some (.int (nI (j14))), none] [.int (nI (j14)), .ref 16384, .ref 16384] _ [] rfl trivial ?_
    refine AR.callV1 (16384) [.int (nI (j14))] [.ref 16384] lk_5_179 dc_X5_digest_23 rfl rfl (s_5counted _ j14 (by assumption) (by omega)) (by first | rfl | (simp only [nI_add, pk_mul]; first | done | rfl)) rfl ?_
    refine AR.run g_X5_digest_26_1 27 [some (.ref 16384), some (.int (nI (j14))), none] [.long ((F_5counted j14 nv nc z sv).toInt64), .ref 16384] _ [] rfl trivial ?_
    refine AR.callV0 (16384) [.long ((F_5counted j14 nv nc z sv).toInt64)] [] lk_5_241 dc_X5_digest_27 rfl rfl (s_5mix _ ((F_5counted j14 nv nc z sv).toInt64) ) (by first | rfl | (simp only [nI_add, pk_mul]; first | done | rfl)) rfl ?_
    refine AR.run g_X5_digest_30_2 14 [some (.ref 16384), some (.int ((nI (j14)) + (nI (1)))), none] [] _ [] rfl trivial ?_
    have e2 : L_5digest_14 nv nc z sv (j14 + 1) = (F_5mix_hh ((F_5counted j14 nv nc z sv).toInt64) (L_5digest_14 nv nc z sv j14)) := by rw [L_5digest_14, B_5digest_14]
    exact AR.cast (L' := [some (.ref 16384), some (.int (nI (j14 + 1))), none]) (by first | rfl | (rw [nI_add]; done) | (rw [nI_add]; rfl)) rfl (by rw [e2]) (ih14 (by first | trivial | omega))
  · refine AR.run g_X5_digest_14_2 17 [some (.ref 16384), some (.int (nI (14))), none] [.int (nI (14)), .int (nI (14))] _ [] rfl trivial ?_
    refine AR.ge2N (tgt := 36) (a := 14) (b := 14) dc_X5_digest_17 (by decide) (by first | rfl | (simp only [nI_add, pk_mul]; first | done | rfl)) (by first | rfl | (simp only [nI_add, pk_mul]; first | done | rfl)) (by omega) (by omega) (fun c17_3 => ?_) (fun c17_3 => absurd c17_3 (by omega))
    refine AR.run g_X5_digest_36_2 38 [some (.ref 16384), some (.int (nI (0))), none] [] _ [] rfl trivial ?_
    refine AR.cast (L' := [some (.ref 16384), some (.int (nI (0))), none]) (by first | rfl | (rw [L_5digest_38])) rfl (by first | rfl | (rw [L_5digest_38])) (AR.loopN 4 (fun j38 => [some (.ref 16384), some (.int (nI (j38))), none]) (fun j38 => (hp o0 a0 t0 p0 (mo z sa ro te fr to un ga pi be bm en sta sv ln (nI (0)) (L_5digest_38 nv nc z sv j38)) u0 l0)) (fun j38 => True) (fun j38 hj38 hI38 ih38 => ?_) (fun hI38 => ?_) 0 (by omega) (by first | trivial | omega))
    · refine AR.run g_X5_digest_38_2 40 [some (.ref 16384), some (.int (nI (j38))), none] [.int (nI (4)), .int (nI (j38))] _ [] rfl trivial ?_
      refine AR.ge2N (tgt := 63) (a := j38) (b := 4) dc_X5_digest_40 (by decide) (by first | rfl | (simp only [nI_add, pk_mul]; first | done | rfl)) (by first | rfl | (simp only [nI_add, pk_mul]; first | done | rfl)) (by omega) (by omega) (fun c40_4 => absurd c40_4 (by omega)) (fun c40_4 => ?_)
      refine AR.run g_X5_digest_43_6 52 [some (.ref 16384), some (.int (nI (j38))), none] [.int ((nI (7)) + (nI (j38))), .ref 16385, .ref 16384] _ [] rfl trivial ?_
      refine AR.ald (n := 0) (e := (7 + j38)) ok_X5_digest_52 (by first | rfl | (simp only [nI_add, pk_mul]; first | done | rfl)) rfl (by omega) (by first | decide | omega) ?_
      refine AR.run g_X5_digest_53_1 54 [some (.ref 16384), some (.int (nI (j38))), none] [.long ((z (7 + j38)).toInt64), .ref 16384] _ [] rfl trivial ?_
      refine AR.callV0 (16384) [.long ((z (7 + j38)).toInt64)] [] lk_5_241 dc_X5_digest_54 rfl rfl (s_5mix _ ((z (7 + j38)).toInt64) ) (by first | rfl | (simp only [nI_add, pk_mul]; first | done | rfl)) rfl ?_
      refine AR.run g_X5_digest_57_2 38 [some (.ref 16384), some (.int ((nI (j38)) + (nI (1)))), none] [] _ [] rfl trivial ?_
      have e5 : L_5digest_38 nv nc z sv (j38 + 1) = (F_5mix_hh ((z (7 + j38)).toInt64) (L_5digest_38 nv nc z sv j38)) := by rw [L_5digest_38, B_5digest_38]
      exact AR.cast (L' := [some (.ref 16384), some (.int (nI (j38 + 1))), none]) (by first | rfl | (rw [nI_add]; done) | (rw [nI_add]; rfl)) rfl (by rw [e5]) (ih38 (by first | trivial | omega))
    · refine AR.run g_X5_digest_38_2 40 [some (.ref 16384), some (.int (nI (4))), none] [.int (nI (4)), .int (nI (4))] _ [] rfl trivial ?_
      refine AR.ge2N (tgt := 63) (a := 4) (b := 4) dc_X5_digest_40 (by decide) (by first | rfl | (simp only [nI_add, pk_mul]; first | done | rfl)) (by first | rfl | (simp only [nI_add, pk_mul]; first | done | rfl)) (by omega) (by omega) (fun c40_6 => ?_) (fun c40_6 => absurd c40_6 (by omega))
      refine AR.run g_X5_digest_63_2 65 [some (.ref 16384), some (.int (nI (0))), none] [] _ [] rfl trivial ?_
      refine AR.cast (L' := [some (.ref 16384), some (.int (nI (0))), none]) (by first | rfl | (rw [L_5digest_65])) rfl (by first | rfl | (rw [L_5digest_65])) (AR.loopN nv (fun j65 => [some (.ref 16384), some (.int (nI (j65))), none]) (fun j65 => (hp o0 a0 t0 p0 (mo z sa ro te fr to un ga pi be bm en sta sv ln (nI (0)) (L_5digest_65 nv nc nr ne z sv j65)) u0 l0)) (fun j65 => True) (fun j65 hj65 hI65 ih65 => ?_) (fun hI65 => ?_) 0 (by omega) (by first | trivial | omega))
      · refine AR.run g_X5_digest_65_4 71 [some (.ref 16384), some (.int (nI (j65))), none] [.int (nI (0)), .ref 16385, .int (nI (j65))] _ [] rfl trivial ?_
        refine AR.ald (n := 0) (e := 0) ok_X5_digest_71 (by first | rfl | (simp only [nI_add, pk_mul]; first | done | rfl)) rfl (by omega) (by first | decide | omega) ?_
        refine AR.top hZ.1.1 ?_
        refine AR.ge2N (tgt := 86) (a := j65) (b := nv) dc_X5_digest_72 (by decide) (by first | rfl | (simp only [nI_add, pk_mul]; first | done | rfl)) (by first | rfl | (simp only [nI_add, pk_mul]; first | done | rfl)) (by omega) (by omega) (fun c72_7 => absurd c72_7 (by omega)) (fun c72_7 => ?_)
        refine AR.run g_X5_digest_75_2 77 [some (.ref 16384), some (.int (nI (j65))), none] [.int (nI (j65)), .ref 16384] _ [] rfl trivial ?_
        refine AR.callV0 (16384) [.int (nI (j65))] [] lk_5_253 dc_X5_digest_77 rfl rfl (s_5mixVolume _ j65 (by assumption) (by omega)) (by first | rfl | (simp only [nI_add, pk_mul]; first | done | rfl)) rfl ?_
        refine AR.run g_X5_digest_80_2 65 [some (.ref 16384), some (.int ((nI (j65)) + (nI (1)))), none] [] _ [] rfl trivial ?_
        have e8 : L_5digest_65 nv nc nr ne z sv (j65 + 1) = (F_5mixVolume_hh j65 nr ne z (L_5digest_65 nv nc nr ne z sv j65)) := by rw [L_5digest_65, B_5digest_65]
        exact AR.cast (L' := [some (.ref 16384), some (.int (nI (j65 + 1))), none]) (by first | rfl | (rw [nI_add]; done) | (rw [nI_add]; rfl)) rfl (by rw [e8]) (ih65 (by first | trivial | omega))
      · refine AR.run g_X5_digest_65_4 71 [some (.ref 16384), some (.int (nI (nv))), none] [.int (nI (0)), .ref 16385, .int (nI (nv))] _ [] rfl trivial ?_
        refine AR.ald (n := 0) (e := 0) ok_X5_digest_71 (by first | rfl | (simp only [nI_add, pk_mul]; first | done | rfl)) rfl (by omega) (by first | decide | omega) ?_
        refine AR.top hZ.1.1 ?_
        refine AR.ge2N (tgt := 86) (a := nv) (b := nv) dc_X5_digest_72 (by decide) (by first | rfl | (simp only [nI_add, pk_mul]; first | done | rfl)) (by first | rfl | (simp only [nI_add, pk_mul]; first | done | rfl)) (by omega) (by omega) (fun c72_9 => ?_) (fun c72_9 => absurd c72_9 (by omega))
        refine AR.run g_X5_digest_86_2 88 [some (.ref 16384), some (.int (nI (0))), none] [] _ [] rfl trivial ?_
        refine AR.cast (L' := [some (.ref 16384), some (.int (nI (0))), none]) (by first | rfl | (rw [L_5digest_88])) rfl (by first | rfl | (rw [L_5digest_88])) (AR.loopN nc (fun j88 => [some (.ref 16384), some (.int (nI (j88))), none]) (fun j88 => (hp o0 a0 t0 p0 (mo z ((L_5digest_88 nv nc nr ne z sa sv j88).2) ro te fr to un ga pi be bm en sta sv ln (nI (0)) ((L_5digest_88 nv nc nr ne z sa sv j88).1)) u0 l0)) (fun j88 => True) (fun j88 hj88 hI88 ih88 => ?_) (fun hI88 => ?_) 0 (by omega) (by first | trivial | omega))
        · refine AR.run g_X5_digest_88_4 94 [some (.ref 16384), some (.int (nI (j88))), none] [.int (nI (1)), .ref 16385, .int (nI (j88))] _ [] rfl trivial ?_
          refine AR.ald (n := 0) (e := 1) ok_X5_digest_94 (by first | rfl | (simp only [nI_add, pk_mul]; first | done | rfl)) rfl (by omega) (by first | decide | omega) ?_
          refine AR.top hZ.2.1.1 ?_
          refine AR.ge2N (tgt := 141) (a := j88) (b := nc) dc_X5_digest_95 (by decide) (by first | rfl | (simp only [nI_add, pk_mul]; first | done | rfl)) (by first | rfl | (simp only [nI_add, pk_mul]; first | done | rfl)) (by omega) (by omega) (fun c95_10 => absurd c95_10 (by omega)) (fun c95_10 => ?_)
          refine AR.run g_X5_digest_98_2 100 [some (.ref 16384), some (.int (nI (j88))), some (.int (nI (0)))] [] _ [] rfl trivial ?_
          refine AR.cast (L' := [some (.ref 16384), some (.int (nI (j88))), some (.int (nI (0)))]) (by first | rfl | (rw [L_5digest_100])) rfl (by first | rfl | (rw [L_5digest_100])) (AR.loopN 6 (fun j100 => [some (.ref 16384), some (.int (nI (j88))), some (.int (nI (j100)))]) (fun j100 => (hp o0 a0 t0 p0 (mo z ((L_5digest_88 nv nc nr ne z sa sv j88).2) ro te fr to un ga pi be bm en sta sv ln (nI (0)) (L_5digest_100 nv z j88 ((L_5digest_88 nv nc nr ne z sa sv j88).1) j100)) u0 l0)) (fun j100 => True) (fun j100 hj100 hI100 ih100 => ?_) (fun hI100 => ?_) 0 (by omega) (by first | trivial | omega))
          · refine AR.run g_X5_digest_100_2 103 [some (.ref 16384), some (.int (nI (j88))), some (.int (nI (j100)))] [.int (nI (6)), .int (nI (j100))] _ [] rfl trivial ?_
            refine AR.ge2N (tgt := 123) (a := j100) (b := 6) dc_X5_digest_103 (by decide) (by first | rfl | (simp only [nI_add, pk_mul]; first | done | rfl)) (by first | rfl | (simp only [nI_add, pk_mul]; first | done | rfl)) (by omega) (by omega) (fun c103_11 => absurd c103_11 (by omega)) (fun c103_11 => ?_)
            refine AR.run g_X5_digest_106_4 110 [some (.ref 16384), some (.int (nI (j88))), some (.int (nI (j100)))] [.int (nI (j100)), .int (nI (j88)), .ref 16384, .ref 16384] _ [] rfl trivial ?_
            refine AR.callV1 (16384) [.int (nI (j88)), .int (nI (j100))] [.ref 16384] lk_5_167 dc_X5_digest_110 rfl rfl (s_5cradleNow _ j88 j100 (by assumption) (by omega) (by omega)) (by first | rfl | (simp only [nI_add, pk_mul]; first | done | rfl)) rfl ?_
            refine AR.run g_X5_digest_113_1 114 [some (.ref 16384), some (.int (nI (j88))), some (.int (nI (j100)))] [.long ((F_5cradleNow j88 j100 nv z).toInt64), .ref 16384] _ [] rfl trivial ?_
            refine AR.callV0 (16384) [.long ((F_5cradleNow j88 j100 nv z).toInt64)] [] lk_5_241 dc_X5_digest_114 rfl rfl (s_5mix _ ((F_5cradleNow j88 j100 nv z).toInt64) ) (by first | rfl | (simp only [nI_add, pk_mul]; first | done | rfl)) rfl ?_
            refine AR.run g_X5_digest_117_2 100 [some (.ref 16384), some (.int (nI (j88))), some (.int ((nI (j100)) + (nI (1))))] [] _ [] rfl trivial ?_
            have e12 : L_5digest_100 nv z j88 ((L_5digest_88 nv nc nr ne z sa sv j88).1) (j100 + 1) = (F_5mix_hh ((F_5cradleNow j88 j100 nv z).toInt64) (L_5digest_100 nv z j88 ((L_5digest_88 nv nc nr ne z sa sv j88).1) j100)) := by rw [L_5digest_100, B_5digest_100]
            exact AR.cast (L' := [some (.ref 16384), some (.int (nI (j88))), some (.int (nI (j100 + 1)))]) (by first | rfl | (rw [nI_add]; done) | (rw [nI_add]; rfl)) rfl (by rw [e12]) (ih100 (by first | trivial | omega))
          · refine AR.run g_X5_digest_100_2 103 [some (.ref 16384), some (.int (nI (j88))), some (.int (nI (6)))] [.int (nI (6)), .int (nI (6))] _ [] rfl trivial ?_
            refine AR.ge2N (tgt := 123) (a := 6) (b := 6) dc_X5_digest_103 (by decide) (by first | rfl | (simp only [nI_add, pk_mul]; first | done | rfl)) (by first | rfl | (simp only [nI_add, pk_mul]; first | done | rfl)) (by omega) (by omega) (fun c103_13 => ?_) (fun c103_13 => absurd c103_13 (by omega))
            refine AR.run g_X5_digest_123_4 128 [some (.ref 16384), some (.int (nI (j88))), some (.int (nI (6)))] [.int (nI (j88)), .int (nI (30)), .ref 16384, .ref 16384] _ [] rfl trivial ?_
            refine AR.callV1 (16384) [.int (nI (30)), .int (nI (j88))] [.ref 16384] lk_5_191 dc_X5_digest_128 rfl rfl ((CT.hp (k := (hp o0 a0 t0 p0 (mo z (F_5passedNow_sa z ((L_5digest_88 nv nc nr ne z sa sv j88).2)) ro te fr to un ga pi be bm en sta sv ln (nI (0)) (L_5digest_100 nv z j88 ((L_5digest_88 nv nc nr ne z sa sv j88).1) 6)) u0 l0)) (s_5passedNow _ 30 (nI (j88)) (by assumption) (by omega)) (by rw [pN_back hZ]))) (by first | rfl | (simp only [nI_add, pk_mul]; first | done | rfl)) rfl ?_
            refine AR.run g_X5_digest_131_1 132 [some (.ref 16384), some (.int (nI (j88))), some (.int (nI (6)))] [.long ((F_5passedNow 30 (nI (j88)) nv nc nr z).toInt64), .ref 16384] _ [] rfl trivial ?_
            refine AR.callV0 (16384) [.long ((F_5passedNow 30 (nI (j88)) nv nc nr z).toInt64)] [] lk_5_241 dc_X5_digest_132 rfl rfl (s_5mix _ ((F_5passedNow 30 (nI (j88)) nv nc nr z).toInt64) ) (by first | rfl | (simp only [nI_add, pk_mul]; first | done | rfl)) rfl ?_
            refine AR.run g_X5_digest_135_2 88 [some (.ref 16384), some (.int ((nI (j88)) + (nI (1)))), some (.int (nI (6)))] [] _ [] rfl trivial ?_
            refine AR.drop (L' := [some (.ref 16384), some (.int ((nI (j88)) + (nI (1)))), none]) ⟨rfl, rfl, trivial⟩ ?_
            have e14 : L_5digest_88 nv nc nr ne z sa sv (j88 + 1) = (F_5mix_hh ((F_5passedNow 30 (nI (j88)) nv nc nr z).toInt64) (L_5digest_100 nv z j88 ((L_5digest_88 nv nc nr ne z sa sv j88).1) 6), F_5passedNow_sa z ((L_5digest_88 nv nc nr ne z sa sv j88).2)) := by rw [L_5digest_88, B_5digest_88]
            exact AR.cast (L' := [some (.ref 16384), some (.int (nI (j88 + 1))), none]) (by first | rfl | (rw [nI_add]; done) | (rw [nI_add]; rfl)) rfl (by rw [e14]) (ih88 (by first | trivial | omega))
        · refine AR.run g_X5_digest_88_4 94 [some (.ref 16384), some (.int (nI (nc))), none] [.int (nI (1)), .ref 16385, .int (nI (nc))] _ [] rfl trivial ?_
          refine AR.ald (n := 0) (e := 1) ok_X5_digest_94 (by first | rfl | (simp only [nI_add, pk_mul]; first | done | rfl)) rfl (by omega) (by first | decide | omega) ?_
          refine AR.top hZ.2.1.1 ?_
          refine AR.ge2N (tgt := 141) (a := nc) (b := nc) dc_X5_digest_95 (by decide) (by first | rfl | (simp only [nI_add, pk_mul]; first | done | rfl)) (by first | rfl | (simp only [nI_add, pk_mul]; first | done | rfl)) (by omega) (by omega) (fun c95_15 => ?_) (fun c95_15 => absurd c95_15 (by omega))
          refine AR.run g_X5_digest_141_2 143 [some (.ref 16384), some (.int (nI (0))), none] [] _ [] rfl trivial ?_
          refine AR.cast (L' := [some (.ref 16384), some (.int (nI (0))), none]) (by first | rfl | (rw [L_5digest_143])) rfl (by first | rfl | (rw [L_5digest_143])) (AR.loopN nr (fun j143 => [some (.ref 16384), some (.int (nI (j143))), none]) (fun j143 => (hp o0 a0 t0 p0 (mo z ((L_5digest_88 nv nc nr ne z sa sv nc).2) ro te fr to un ga pi be bm en sta sv ln (nI (0)) (L_5digest_143 nv nc nr ne z sa sv j143)) u0 l0)) (fun j143 => True) (fun j143 hj143 hI143 ih143 => ?_) (fun hI143 => ?_) 0 (by omega) (by first | trivial | omega))
          · refine AR.run g_X5_digest_143_4 149 [some (.ref 16384), some (.int (nI (j143))), none] [.int (nI (2)), .ref 16385, .int (nI (j143))] _ [] rfl trivial ?_
            refine AR.ald (n := 0) (e := 2) ok_X5_digest_149 (by first | rfl | (simp only [nI_add, pk_mul]; first | done | rfl)) rfl (by omega) (by first | decide | omega) ?_
            refine AR.top hZ.2.2.1.1 ?_
            refine AR.ge2N (tgt := 183) (a := j143) (b := nr) dc_X5_digest_150 (by decide) (by first | rfl | (simp only [nI_add, pk_mul]; first | done | rfl)) (by first | rfl | (simp only [nI_add, pk_mul]; first | done | rfl)) (by omega) (by omega) (fun c150_16 => absurd c150_16 (by omega)) (fun c150_16 => ?_)
            refine AR.run g_X5_digest_153_2 155 [some (.ref 16384), some (.int (nI (j143))), some (.int (nI (0)))] [] _ [] rfl trivial ?_
            refine AR.cast (L' := [some (.ref 16384), some (.int (nI (j143))), some (.int (nI (0)))]) (by first | rfl | (rw [L_5digest_155])) rfl (by first | rfl | (rw [L_5digest_155])) (AR.loopN 4 (fun j155 => [some (.ref 16384), some (.int (nI (j143))), some (.int (nI (j155)))]) (fun j155 => (hp o0 a0 t0 p0 (mo z ((L_5digest_88 nv nc nr ne z sa sv nc).2) ro te fr to un ga pi be bm en sta sv ln (nI (0)) (L_5digest_155 z j143 (L_5digest_143 nv nc nr ne z sa sv j143) j155)) u0 l0)) (fun j155 => True) (fun j155 hj155 hI155 ih155 => ?_) (fun hI155 => ?_) 0 (by omega) (by first | trivial | omega))
            · refine AR.run g_X5_digest_155_2 157 [some (.ref 16384), some (.int (nI (j143))), some (.int (nI (j155)))] [.int (nI (4)), .int (nI (j155))] _ [] rfl trivial ?_
              refine AR.ge2N (tgt := 177) (a := j155) (b := 4) dc_X5_digest_157 (by decide) (by first | rfl | (simp only [nI_add, pk_mul]; first | done | rfl)) (by first | rfl | (simp only [nI_add, pk_mul]; first | done | rfl)) (by omega) (by omega) (fun c157_17 => absurd c157_17 (by omega)) (fun c157_17 => ?_)
              refine AR.run g_X5_digest_160_4 164 [some (.ref 16384), some (.int (nI (j143))), some (.int (nI (j155)))] [.int (nI (j155)), .int (nI (j143)), .ref 16384, .ref 16384] _ [] rfl trivial ?_
              refine AR.callV1 (16384) [.int (nI (j143)), .int (nI (j155))] [.ref 16384] lk_5_58 dc_X5_digest_164 rfl rfl (s_ofCarrier _ j143 j155 (by omega) (by omega)) (by first | rfl | (simp only [nI_add, pk_mul]; first | done | rfl)) rfl ?_
              refine AR.run g_X5_digest_167_1 168 [some (.ref 16384), some (.int (nI (j143))), some (.int (nI (j155)))] [.long ((z (111 + 4 * j143 + j155)).toInt64), .ref 16384] _ [] rfl trivial ?_
              refine AR.callV0 (16384) [.long ((z (111 + 4 * j143 + j155)).toInt64)] [] lk_5_241 dc_X5_digest_168 rfl rfl (s_5mix _ ((z (111 + 4 * j143 + j155)).toInt64) ) (by first | rfl | (simp only [nI_add, pk_mul]; first | done | rfl)) rfl ?_
              refine AR.run g_X5_digest_171_2 155 [some (.ref 16384), some (.int (nI (j143))), some (.int ((nI (j155)) + (nI (1))))] [] _ [] rfl trivial ?_
              have e18 : L_5digest_155 z j143 (L_5digest_143 nv nc nr ne z sa sv j143) (j155 + 1) = (F_5mix_hh ((z (111 + 4 * j143 + j155)).toInt64) (L_5digest_155 z j143 (L_5digest_143 nv nc nr ne z sa sv j143) j155)) := by rw [L_5digest_155, B_5digest_155]
              exact AR.cast (L' := [some (.ref 16384), some (.int (nI (j143))), some (.int (nI (j155 + 1)))]) (by first | rfl | (rw [nI_add]; done) | (rw [nI_add]; rfl)) rfl (by rw [e18]) (ih155 (by first | trivial | omega))
            · refine AR.run g_X5_digest_155_2 157 [some (.ref 16384), some (.int (nI (j143))), some (.int (nI (4)))] [.int (nI (4)), .int (nI (4))] _ [] rfl trivial ?_
              refine AR.ge2N (tgt := 177) (a := 4) (b := 4) dc_X5_digest_157 (by decide) (by first | rfl | (simp only [nI_add, pk_mul]; first | done | rfl)) (by first | rfl | (simp only [nI_add, pk_mul]; first | done | rfl)) (by omega) (by omega) (fun c157_19 => ?_) (fun c157_19 => absurd c157_19 (by omega))
              refine AR.run g_X5_digest_177_2 143 [some (.ref 16384), some (.int ((nI (j143)) + (nI (1)))), some (.int (nI (4)))] [] _ [] rfl trivial ?_
              refine AR.drop (L' := [some (.ref 16384), some (.int ((nI (j143)) + (nI (1)))), none]) ⟨rfl, rfl, trivial⟩ ?_
              have e20 : L_5digest_143 nv nc nr ne z sa sv (j143 + 1) = (L_5digest_155 z j143 (L_5digest_143 nv nc nr ne z sa sv j143) 4) := by rw [L_5digest_143, B_5digest_143]
              exact AR.cast (L' := [some (.ref 16384), some (.int (nI (j143 + 1))), none]) (by first | rfl | (rw [nI_add]; done) | (rw [nI_add]; rfl)) rfl (by rw [e20]) (ih143 (by first | trivial | omega))
          · refine AR.run g_X5_digest_143_4 149 [some (.ref 16384), some (.int (nI (nr))), none] [.int (nI (2)), .ref 16385, .int (nI (nr))] _ [] rfl trivial ?_
            refine AR.ald (n := 0) (e := 2) ok_X5_digest_149 (by first | rfl | (simp only [nI_add, pk_mul]; first | done | rfl)) rfl (by omega) (by first | decide | omega) ?_
            refine AR.top hZ.2.2.1.1 ?_
            refine AR.ge2N (tgt := 183) (a := nr) (b := nr) dc_X5_digest_150 (by decide) (by first | rfl | (simp only [nI_add, pk_mul]; first | done | rfl)) (by first | rfl | (simp only [nI_add, pk_mul]; first | done | rfl)) (by omega) (by omega) (fun c150_21 => ?_) (fun c150_21 => absurd c150_21 (by omega))
            refine AR.run g_X5_digest_183_2 185 [some (.ref 16384), some (.int (nI (0))), none] [] _ [] rfl trivial ?_
            refine AR.cast (L' := [some (.ref 16384), some (.int (nI (0))), none]) (by first | rfl | (rw [L_5digest_185])) rfl (by first | rfl | (rw [L_5digest_185])) (AR.loopN (5 * ne) (fun j185 => [some (.ref 16384), some (.int (nI (j185))), none]) (fun j185 => (hp o0 a0 t0 p0 (mo z ((L_5digest_88 nv nc nr ne z sa sv nc).2) ro te fr to un ga pi be bm en sta sv ln (nI (0)) (L_5digest_185 nv nc nr ne z sa sv j185)) u0 l0)) (fun j185 => True) (fun j185 hj185 hI185 ih185 => ?_) (fun hI185 => ?_) 0 (by omega) (by first | trivial | omega))
            · refine AR.run g_X5_digest_185_5 192 [some (.ref 16384), some (.int (nI (j185))), none] [.int (nI (5)), .ref 16385, .int (nI (5)), .int (nI (j185))] _ [] rfl trivial ?_
              refine AR.ald (n := 0) (e := 5) ok_X5_digest_192 (by first | rfl | (simp only [nI_add, pk_mul]; first | done | rfl)) rfl (by omega) (by first | decide | omega) ?_
              refine AR.top hZ.2.2.2.1.1 ?_
              refine AR.run g_X5_digest_193_1 194 [some (.ref 16384), some (.int (nI (j185))), none] [.int ((nI (5)) * (nI (ne))), .int (nI (j185))] _ [] rfl trivial ?_
              refine AR.ge2N (tgt := 217) (a := j185) (b := (5 * ne)) dc_X5_digest_194 (by decide) (by first | rfl | (simp only [nI_add, pk_mul]; first | done | rfl)) (by first | rfl | (simp only [nI_add, pk_mul]; first | done | rfl)) (by omega) (by omega) (fun c194_22 => absurd c194_22 (by omega)) (fun c194_22 => ?_)
              refine AR.run g_X5_digest_197_6 206 [some (.ref 16384), some (.int (nI (j185))), none] [.int ((nI (123)) + (nI (j185))), .ref 16385, .ref 16384] _ [] rfl trivial ?_
              refine AR.ald (n := 0) (e := (123 + j185)) ok_X5_digest_206 (by first | rfl | (simp only [nI_add, pk_mul]; first | done | rfl)) rfl (by omega) (by first | decide | omega) ?_
              refine AR.run g_X5_digest_207_1 208 [some (.ref 16384), some (.int (nI (j185))), none] [.long ((z (123 + j185)).toInt64), .ref 16384] _ [] rfl trivial ?_
              refine AR.callV0 (16384) [.long ((z (123 + j185)).toInt64)] [] lk_5_241 dc_X5_digest_208 rfl rfl (s_5mix _ ((z (123 + j185)).toInt64) ) (by first | rfl | (simp only [nI_add, pk_mul]; first | done | rfl)) rfl ?_
              refine AR.run g_X5_digest_211_2 185 [some (.ref 16384), some (.int ((nI (j185)) + (nI (1)))), none] [] _ [] rfl trivial ?_
              have e23 : L_5digest_185 nv nc nr ne z sa sv (j185 + 1) = (F_5mix_hh ((z (123 + j185)).toInt64) (L_5digest_185 nv nc nr ne z sa sv j185)) := by rw [L_5digest_185, B_5digest_185]
              exact AR.cast (L' := [some (.ref 16384), some (.int (nI (j185 + 1))), none]) (by first | rfl | (rw [nI_add]; done) | (rw [nI_add]; rfl)) rfl (by rw [e23]) (ih185 (by first | trivial | omega))
            · refine AR.run g_X5_digest_185_5 192 [some (.ref 16384), some (.int (nI (5 * ne))), none] [.int (nI (5)), .ref 16385, .int (nI (5)), .int (nI (5 * ne))] _ [] rfl trivial ?_
              refine AR.ald (n := 0) (e := 5) ok_X5_digest_192 (by first | rfl | (simp only [nI_add, pk_mul]; first | done | rfl)) rfl (by omega) (by first | decide | omega) ?_
              refine AR.top hZ.2.2.2.1.1 ?_
              refine AR.run g_X5_digest_193_1 194 [some (.ref 16384), some (.int (nI (5 * ne))), none] [.int ((nI (5)) * (nI (ne))), .int (nI (5 * ne))] _ [] rfl trivial ?_
              refine AR.ge2N (tgt := 217) (a := 5 * ne) (b := (5 * ne)) dc_X5_digest_194 (by decide) (by first | rfl | (simp only [nI_add, pk_mul]; first | done | rfl)) (by first | rfl | (simp only [nI_add, pk_mul]; first | done | rfl)) (by omega) (by omega) (fun c194_24 => ?_) (fun c194_24 => absurd c194_24 (by omega))
              refine AR.run g_X5_digest_217_1 218 [some (.ref 16384), some (.int (nI (5 * ne))), none] [.ref 16384] _ [] rfl trivial ?_
              refine AR.callV0 (16384) [] [] lk_5_256 dc_X5_digest_218 rfl rfl (s_5mixAhead _  (by assumption) (by assumption) (by assumption)) (by first | rfl | (simp only [nI_add, pk_mul]; first | done | rfl)) rfl ?_
              refine AR.run g_X5_digest_221_3 226 [some (.ref 16384), some (.int (nI (5 * ne))), none] [.int (ln), .ref 16384] _ [] rfl trivial ?_
              refine AR.top hln ?_
              refine AR.run g_X5_digest_226_1 227 [some (.ref 16384), some (.int (nI (5 * ne))), none] [.long ((nI (q)).toInt64), .ref 16384] _ [] rfl trivial ?_
              refine AR.callV0 (16384) [.long ((nI (q)).toInt64)] [] lk_5_241 dc_X5_digest_227 rfl rfl (s_5mix _ ((nI (q)).toInt64) ) (by first | rfl | (simp only [nI_add, pk_mul]; first | done | rfl)) rfl ?_
              refine AR.run g_X5_digest_230_2 232 [some (.ref 16384), some (.int (nI (0))), none] [] _ [] rfl trivial ?_
              refine AR.cast (L' := [some (.ref 16384), some (.int (nI (0))), none]) (by first | rfl | (rw [L_5digest_232])) rfl (by first | rfl | (rw [L_5digest_232])) (AR.loopN q (fun j232 => [some (.ref 16384), some (.int (nI (j232))), none]) (fun j232 => (hp o0 a0 t0 p0 (mo z (F_5mixAhead_sa z ((L_5digest_88 nv nc nr ne z sa sv nc).2)) ro te fr to un (F_5mixAhead_ga nv nc z ga) (F_5mixAhead_pi nv nc z ga pi be) (F_5mixAhead_be nv nc z ga pi be) (F_5mixAhead_bm nv nc z ga pi be) en sta sv ln (nI (0)) (L_5digest_232 nv nc nr ne q z sa te ga pi be sv j232)) u0 l0)) (fun j232 => True) (fun j232 hj232 hI232 ih232 => ?_) (fun hI232 => ?_) 0 (by omega) (by first | trivial | omega))
              · refine AR.run g_X5_digest_232_3 237 [some (.ref 16384), some (.int (nI (j232))), none] [.int (ln), .int (nI (j232))] _ [] rfl trivial ?_
                refine AR.top hln ?_
                refine AR.ge2N (tgt := 257) (a := j232) (b := q) dc_X5_digest_237 (by decide) (by first | rfl | (simp only [nI_add, pk_mul]; first | done | rfl)) (by first | rfl | (simp only [nI_add, pk_mul]; first | done | rfl)) (by omega) (by omega) (fun c237_25 => absurd c237_25 (by omega)) (fun c237_25 => ?_)
                refine AR.run g_X5_digest_240_4 246 [some (.ref 16384), some (.int (nI (j232))), none] [.int (nI (j232)), .ref 16388, .ref 16384] _ [] rfl trivial ?_
                refine AR.ald (n := 0) (e := j232) ok_X5_digest_246 (by first | rfl | (simp only [nI_add, pk_mul]; first | done | rfl)) rfl (by omega) (by first | decide | omega) ?_
                refine AR.run g_X5_digest_247_1 248 [some (.ref 16384), some (.int (nI (j232))), none] [.long ((te j232).toInt64), .ref 16384] _ [] rfl trivial ?_
                refine AR.callV0 (16384) [.long ((te j232).toInt64)] [] lk_5_241 dc_X5_digest_248 rfl rfl (s_5mix _ ((te j232).toInt64) ) (by first | rfl | (simp only [nI_add, pk_mul]; first | done | rfl)) rfl ?_
                refine AR.run g_X5_digest_251_2 232 [some (.ref 16384), some (.int ((nI (j232)) + (nI (1)))), none] [] _ [] rfl trivial ?_
                have e26 : L_5digest_232 nv nc nr ne q z sa te ga pi be sv (j232 + 1) = (F_5mix_hh ((te j232).toInt64) (L_5digest_232 nv nc nr ne q z sa te ga pi be sv j232)) := by rw [L_5digest_232, B_5digest_232]
                exact AR.cast (L' := [some (.ref 16384), some (.int (nI (j232 + 1))), none]) (by first | rfl | (rw [nI_add]; done) | (rw [nI_add]; rfl)) rfl (by rw [e26]) (ih232 (by first | trivial | omega))
              · refine AR.run g_X5_digest_232_3 237 [some (.ref 16384), some (.int (nI (q))), none] [.int (ln), .int (nI (q))] _ [] rfl trivial ?_
                refine AR.top hln ?_
                refine AR.ge2N (tgt := 257) (a := q) (b := q) dc_X5_digest_237 (by decide) (by first | rfl | (simp only [nI_add, pk_mul]; first | done | rfl)) (by first | rfl | (simp only [nI_add, pk_mul]; first | done | rfl)) (by omega) (by omega) (fun c237_27 => ?_) (fun c237_27 => absurd c237_27 (by omega))
                refine AR.run g_X5_digest_257_2 261 [some (.ref 16384), some (.int (nI (q))), none] [.long (L_5digest_232 nv nc nr ne q z sa te ga pi be sv q)] _ [] rfl trivial ?_
                have e28_0 : F_5digest nv nc nr ne q z sa te ga pi be sv = (L_5digest_232 nv nc nr ne q z sa te ga pi be sv q) := by rw [F_5digest]
                have e28_1 : F_5digest_sa nv nc nr ne z sa sv = (F_5mixAhead_sa z ((L_5digest_88 nv nc nr ne z sa sv nc).2)) := by rw [F_5digest_sa]
                have e28_2 : F_5digest_ga nv nc z ga = (F_5mixAhead_ga nv nc z ga) := by rw [F_5digest_ga]
                have e28_3 : F_5digest_pi nv nc z ga pi be = (F_5mixAhead_pi nv nc z ga pi be) := by rw [F_5digest_pi]
                have e28_4 : F_5digest_be nv nc z ga pi be = (F_5mixAhead_be nv nc z ga pi be) := by rw [F_5digest_be]
                have e28_5 : F_5digest_bm nv nc z ga pi be = (F_5mixAhead_bm nv nc z ga pi be) := by rw [F_5digest_bm]
                have e28_6 : F_5digest_th = (nI (0)) := by rw [F_5digest_th]
                have e28_7 : F_5digest_hh nv nc nr ne q z sa te ga pi be sv = (L_5digest_232 nv nc nr ne q z sa te ga pi be sv q) := by rw [F_5digest_hh]
                exact AR.retL dc_X5_digest_261 rfl e28_0.symm (by rw [e28_1, e28_2, e28_3, e28_4, e28_5, e28_6, e28_7])
