theorem g_X4_addVolume_0_3 : ab_oks M_X4_addVolume [(0, .iload_n 1, 1, 1, 0, 0, .null), (1, .iconst 0, 1, 0, 0, 0, .int (nI (0))), (2, .bipush 19, 2, 0, 0, 0, .int (nI (19)))] = true := by decide +kernel
theorem lk_4_30 : ab_lkS "LeafCradles" 30 M_X4_requireRange 3 [185, 186, 29, 187] = true := by decide +kernel
theorem dc_X4_addVolume_4 : decode (AM.bytes M_X4_addVolume) 4 = .ok (.invokestatic 30, 3) := by decide +kernel
set_option maxRecDepth 100000 in
set_option maxHeartbeats 4000000 in
theorem s_4addVolumeA {E : AE} (d : Nat) (b0 : Int32) (b1 : Int32) (b2 : Int32) (b3 : Int32) {nv : Nat} {nc : Nat} {nr : Nat} {ne : Nat}  {o0 m0 u0 l0 : List AC} {T K : Nat → Nat → Int32} {os sc : Int32} {tc tp : Nat → Int32} {tl_ tn trd tv tdg tf tla : Int32} {pg ph pc : Nat → Int32} {pm : Int32} (hT : TI T nv nc nr ne) (hx : wi b0 (nI 0) (nI 19) = 0) (hex : E.ex = false) : CT E M_X4_addVolume (d + 3) [.ref 4096, .int (b0), .int (b1), .int (b2), .int (b3)] (hp o0 (ar T K os sc) (te_ tc tp tl_ tn trd tv tdg tf tla) (pl pg ph pc pm) m0 u0 l0) (.inr "java/lang/IllegalArgumentException") (hp o0 (ar T K os sc) (te_ tc tp tl_ tn trd tv tdg tf tla) (pl pg ph pc pm) m0 u0 l0) 1 6 := by
  obtain ⟨⟨hnv, h12⟩, ⟨hnc, h4⟩, ⟨hnr, h3⟩, ⟨hne, h60⟩, hLT, hHT⟩ := id hT
  refine CT.of (L := [some (.ref 4096), some (.int (b0)), some (.int (b1)), some (.int (b2)), some (.int (b3))]) rfl rfl ?_
  refine AR.run g_X4_addVolume_0_3 4 [some (.ref 4096), some (.int (b0)), some (.int (b1)), some (.int (b2)), some (.int (b3))] [.int (nI (19)), .int (nI (0)), .int (b0)] _ [] rfl trivial ?_
  exact AR.end' rfl rfl (AR.room (by omega) (by omega) (AR.callSx [.int (b0), .int (nI (0)), .int (nI (19))] [] lk_4_30 dc_X4_addVolume_4 (s_4requireRangeB _ b0 (nI (0)) (nI (19)) (by assumption) (by assumption)) (by first | rfl | (simp only [nI_add, pk_mul]; first | done | rfl)) rfl rfl))
theorem g_X4_addVolume_7_3 : ab_oks M_X4_addVolume [(7, .iload_n 2, 1, 2, 0, 0, .null), (8, .iconst 1, 1, 0, 0, 0, .int (nI (1))), (9, .iconst 3, 1, 0, 0, 0, .int (nI (3)))] = true := by decide +kernel
theorem dc_X4_addVolume_10 : decode (AM.bytes M_X4_addVolume) 10 = .ok (.invokestatic 30, 3) := by decide +kernel
set_option maxRecDepth 100000 in
set_option maxHeartbeats 4000000 in
theorem s_4addVolumeB {E : AE} (d : Nat) (b0 : Int32) (b1 : Int32) (b2 : Int32) (b3 : Int32) {nv : Nat} {nc : Nat} {nr : Nat} {ne : Nat}  {o0 m0 u0 l0 : List AC} {T K : Nat → Nat → Int32} {os sc : Int32} {tc tp : Nat → Int32} {tl_ tn trd tv tdg tf tla : Int32} {pg ph pc : Nat → Int32} {pm : Int32} (hT : TI T nv nc nr ne) (ho0 : ¬ wi b0 (nI 0) (nI 19) = 0) (hx : wi b1 (nI 1) (nI 3) = 0) (hex : E.ex = false) : CT E M_X4_addVolume (d + 3) [.ref 4096, .int (b0), .int (b1), .int (b2), .int (b3)] (hp o0 (ar T K os sc) (te_ tc tp tl_ tn trd tv tdg tf tla) (pl pg ph pc pm) m0 u0 l0) (.inr "java/lang/IllegalArgumentException") (hp o0 (ar T K os sc) (te_ tc tp tl_ tn trd tv tdg tf tla) (pl pg ph pc pm) m0 u0 l0) 1 6 := by
  obtain ⟨⟨hnv, h12⟩, ⟨hnc, h4⟩, ⟨hnr, h3⟩, ⟨hne, h60⟩, hLT, hHT⟩ := id hT
  refine CT.of (L := [some (.ref 4096), some (.int (b0)), some (.int (b1)), some (.int (b2)), some (.int (b3))]) rfl rfl ?_
  refine AR.run g_X4_addVolume_0_3 4 [some (.ref 4096), some (.int (b0)), some (.int (b1)), some (.int (b2)), some (.int (b3))] [.int (nI (19)), .int (nI (0)), .int (b0)] _ [] rfl trivial ?_
  refine AR.callS0 [.int (b0), .int (nI (0)), .int (nI (19))] [] lk_4_30 dc_X4_addVolume_4 (s_4requireRangeO _ b0 (nI (0)) (nI (19)) (by assumption)) (by first | rfl | (simp only [nI_add, pk_mul]; first | done | rfl)) rfl ?_
  refine AR.run g_X4_addVolume_7_3 10 [some (.ref 4096), some (.int (b0)), some (.int (b1)), some (.int (b2)), some (.int (b3))] [.int (nI (3)), .int (nI (1)), .int (b1)] _ [] rfl trivial ?_
  exact AR.end' rfl rfl (AR.room (by omega) (by omega) (AR.callSx [.int (b1), .int (nI (1)), .int (nI (3))] [] lk_4_30 dc_X4_addVolume_10 (s_4requireRangeB _ b1 (nI (1)) (nI (3)) (by assumption) (by assumption)) (by first | rfl | (simp only [nI_add, pk_mul]; first | done | rfl)) rfl rfl))
theorem g_X4_addVolume_13_3 : ab_oks M_X4_addVolume [(13, .iload_n 3, 1, 3, 0, 0, .null), (14, .iconst 1, 1, 0, 0, 0, .int (nI (1))), (15, .bipush 40, 2, 0, 0, 0, .int (nI (40)))] = true := by decide +kernel
theorem dc_X4_addVolume_17 : decode (AM.bytes M_X4_addVolume) 17 = .ok (.invokestatic 30, 3) := by decide +kernel
set_option maxRecDepth 100000 in
set_option maxHeartbeats 4000000 in
theorem s_4addVolumeC {E : AE} (d : Nat) (b0 : Int32) (b1 : Int32) (b2 : Int32) (b3 : Int32) {nv : Nat} {nc : Nat} {nr : Nat} {ne : Nat}  {o0 m0 u0 l0 : List AC} {T K : Nat → Nat → Int32} {os sc : Int32} {tc tp : Nat → Int32} {tl_ tn trd tv tdg tf tla : Int32} {pg ph pc : Nat → Int32} {pm : Int32} (hT : TI T nv nc nr ne) (ho0 : ¬ wi b0 (nI 0) (nI 19) = 0) (ho1 : ¬ wi b1 (nI 1) (nI 3) = 0) (hx : wi b2 (nI 1) (nI 40) = 0) (hex : E.ex = false) : CT E M_X4_addVolume (d + 3) [.ref 4096, .int (b0), .int (b1), .int (b2), .int (b3)] (hp o0 (ar T K os sc) (te_ tc tp tl_ tn trd tv tdg tf tla) (pl pg ph pc pm) m0 u0 l0) (.inr "java/lang/IllegalArgumentException") (hp o0 (ar T K os sc) (te_ tc tp tl_ tn trd tv tdg tf tla) (pl pg ph pc pm) m0 u0 l0) 1 6 := by
  obtain ⟨⟨hnv, h12⟩, ⟨hnc, h4⟩, ⟨hnr, h3⟩, ⟨hne, h60⟩, hLT, hHT⟩ := id hT
  refine CT.of (L := [some (.ref 4096), some (.int (b0)), some (.int (b1)), some (.int (b2)), some (.int (b3))]) rfl rfl ?_
  refine AR.run g_X4_addVolume_0_3 4 [some (.ref 4096), some (.int (b0)), some (.int (b1)), some (.int (b2)), some (.int (b3))] [.int (nI (19)), .int (nI (0)), .int (b0)] _ [] rfl trivial ?_
  refine AR.callS0 [.int (b0), .int (nI (0)), .int (nI (19))] [] lk_4_30 dc_X4_addVolume_4 (s_4requireRangeO _ b0 (nI (0)) (nI (19)) (by assumption)) (by first | rfl | (simp only [nI_add, pk_mul]; first | done | rfl)) rfl ?_
  refine AR.run g_X4_addVolume_7_3 10 [some (.ref 4096), some (.int (b0)), some (.int (b1)), some (.int (b2)), some (.int (b3))] [.int (nI (3)), .int (nI (1)), .int (b1)] _ [] rfl trivial ?_
  refine AR.callS0 [.int (b1), .int (nI (1)), .int (nI (3))] [] lk_4_30 dc_X4_addVolume_10 (s_4requireRangeO _ b1 (nI (1)) (nI (3)) (by assumption)) (by first | rfl | (simp only [nI_add, pk_mul]; first | done | rfl)) rfl ?_
  refine AR.run g_X4_addVolume_13_3 17 [some (.ref 4096), some (.int (b0)), some (.int (b1)), some (.int (b2)), some (.int (b3))] [.int (nI (40)), .int (nI (1)), .int (b2)] _ [] rfl trivial ?_
  exact AR.end' rfl rfl (AR.room (by omega) (by omega) (AR.callSx [.int (b2), .int (nI (1)), .int (nI (40))] [] lk_4_30 dc_X4_addVolume_17 (s_4requireRangeB _ b2 (nI (1)) (nI (40)) (by assumption) (by assumption)) (by first | rfl | (simp only [nI_add, pk_mul]; first | done | rfl)) rfl rfl))
theorem g_X4_addVolume_20_3 : ab_oks M_X4_addVolume [(20, .iload 4, 2, 4, 0, 0, .null), (22, .iconst 0, 1, 0, 0, 0, .int (nI (0))), (23, .iconst 3, 1, 0, 0, 0, .int (nI (3)))] = true := by decide +kernel
theorem dc_X4_addVolume_24 : decode (AM.bytes M_X4_addVolume) 24 = .ok (.invokestatic 30, 3) := by decide +kernel
set_option maxRecDepth 100000 in
set_option maxHeartbeats 4000000 in
theorem s_4addVolumeD {E : AE} (d : Nat) (b0 : Int32) (b1 : Int32) (b2 : Int32) (b3 : Int32) {nv : Nat} {nc : Nat} {nr : Nat} {ne : Nat}  {o0 m0 u0 l0 : List AC} {T K : Nat → Nat → Int32} {os sc : Int32} {tc tp : Nat → Int32} {tl_ tn trd tv tdg tf tla : Int32} {pg ph pc : Nat → Int32} {pm : Int32} (hT : TI T nv nc nr ne) (ho0 : ¬ wi b0 (nI 0) (nI 19) = 0) (ho1 : ¬ wi b1 (nI 1) (nI 3) = 0) (ho2 : ¬ wi b2 (nI 1) (nI 40) = 0) (hx : wi b3 (nI 0) (nI 3) = 0) (hex : E.ex = false) : CT E M_X4_addVolume (d + 3) [.ref 4096, .int (b0), .int (b1), .int (b2), .int (b3)] (hp o0 (ar T K os sc) (te_ tc tp tl_ tn trd tv tdg tf tla) (pl pg ph pc pm) m0 u0 l0) (.inr "java/lang/IllegalArgumentException") (hp o0 (ar T K os sc) (te_ tc tp tl_ tn trd tv tdg tf tla) (pl pg ph pc pm) m0 u0 l0) 1 6 := by
  obtain ⟨⟨hnv, h12⟩, ⟨hnc, h4⟩, ⟨hnr, h3⟩, ⟨hne, h60⟩, hLT, hHT⟩ := id hT
  refine CT.of (L := [some (.ref 4096), some (.int (b0)), some (.int (b1)), some (.int (b2)), some (.int (b3))]) rfl rfl ?_
  refine AR.run g_X4_addVolume_0_3 4 [some (.ref 4096), some (.int (b0)), some (.int (b1)), some (.int (b2)), some (.int (b3))] [.int (nI (19)), .int (nI (0)), .int (b0)] _ [] rfl trivial ?_
  refine AR.callS0 [.int (b0), .int (nI (0)), .int (nI (19))] [] lk_4_30 dc_X4_addVolume_4 (s_4requireRangeO _ b0 (nI (0)) (nI (19)) (by assumption)) (by first | rfl | (simp only [nI_add, pk_mul]; first | done | rfl)) rfl ?_
  refine AR.run g_X4_addVolume_7_3 10 [some (.ref 4096), some (.int (b0)), some (.int (b1)), some (.int (b2)), some (.int (b3))] [.int (nI (3)), .int (nI (1)), .int (b1)] _ [] rfl trivial ?_
  refine AR.callS0 [.int (b1), .int (nI (1)), .int (nI (3))] [] lk_4_30 dc_X4_addVolume_10 (s_4requireRangeO _ b1 (nI (1)) (nI (3)) (by assumption)) (by first | rfl | (simp only [nI_add, pk_mul]; first | done | rfl)) rfl ?_
  refine AR.run g_X4_addVolume_13_3 17 [some (.ref 4096), some (.int (b0)), some (.int (b1)), some (.int (b2)), some (.int (b3))] [.int (nI (40)), .int (nI (1)), .int (b2)] _ [] rfl trivial ?_
  refine AR.callS0 [.int (b2), .int (nI (1)), .int (nI (40))] [] lk_4_30 dc_X4_addVolume_17 (s_4requireRangeO _ b2 (nI (1)) (nI (40)) (by assumption)) (by first | rfl | (simp only [nI_add, pk_mul]; first | done | rfl)) rfl ?_
  refine AR.run g_X4_addVolume_20_3 24 [some (.ref 4096), some (.int (b0)), some (.int (b1)), some (.int (b2)), some (.int (b3))] [.int (nI (3)), .int (nI (0)), .int (b3)] _ [] rfl trivial ?_
  exact AR.end' rfl rfl (AR.room (by omega) (by omega) (AR.callSx [.int (b3), .int (nI (0)), .int (nI (3))] [] lk_4_30 dc_X4_addVolume_24 (s_4requireRangeB _ b3 (nI (0)) (nI (3)) (by assumption) (by assumption)) (by first | rfl | (simp only [nI_add, pk_mul]; first | done | rfl)) rfl rfl))
theorem g_X4_addVolume_27_3 : ab_oks M_X4_addVolume [(27, .aload_n 0, 1, 0, 0, 0, .null), (28, .getfield 10, 3, 4, 0, 171, .null), (31, .iconst 0, 1, 0, 0, 0, .int (nI (0)))] = true := by decide +kernel
theorem dc_X4_addVolume_32 : decode (AM.bytes M_X4_addVolume) 32 = .ok (.invokevirtual 34, 3) := by decide +kernel
theorem g_X4_addVolume_35_1 : ab_oks M_X4_addVolume [(35, .bipush 12, 2, 0, 0, 0, .int (nI (12)))] = true := by decide +kernel
theorem dc_X4_addVolume_37 : decode (AM.bytes M_X4_addVolume) 37 = .ok (.if_icmp .lt 13, 3) := by decide +kernel
theorem dc_X4_addVolume_40 : decode (AM.bytes M_X4_addVolume) 40 = .ok (.new 38, 3) := by decide +kernel
theorem dc_X4_addVolume_43 : decode (AM.bytes M_X4_addVolume) 43 = .ok (.dup, 1) := by decide +kernel
theorem dc_X4_addVolume_44 : decode (AM.bytes M_X4_addVolume) 44 = .ok (.ldc 40, 2) := by decide +kernel
theorem dc_X4_addVolume_46 : decode (AM.bytes M_X4_addVolume) 46 = .ok (.invokespecial 42, 3) := by decide +kernel
theorem dc_X4_addVolume_49 : decode (AM.bytes M_X4_addVolume) 49 = .ok (.athrow, 1) := by decide +kernel
theorem th_38_42a : ab_ats [568, 41] [.classLink "LeafCradles" 38 "java/lang/IllegalStateException", .initialized "java/lang/IllegalStateException"] = true := by decide +kernel
theorem th_38_42b : vx_ot (.classLink "LeafCradles" 38 "java/lang/IllegalStateException") = true := by decide +kernel
set_option maxRecDepth 100000 in
set_option maxHeartbeats 4000000 in
theorem s_4addVolumeE {E : AE} (d : Nat) (b0 : Int32) (b1 : Int32) (b2 : Int32) (b3 : Int32) {nv : Nat} {nc : Nat} {nr : Nat} {ne : Nat}  {o0 m0 u0 l0 : List AC} {T K : Nat → Nat → Int32} {os sc : Int32} {tc tp : Nat → Int32} {tl_ tn trd tv tdg tf tla : Int32} {pg ph pc : Nat → Int32} {pm : Int32} (hT : TI T nv nc nr ne) (ho0 : ¬ wi b0 (nI 0) (nI 19) = 0) (ho1 : ¬ wi b1 (nI 1) (nI 3) = 0) (ho2 : ¬ wi b2 (nI 1) (nI 40) = 0) (ho3 : ¬ wi b3 (nI 0) (nI 3) = 0) (hf : nv = 12) (hex : E.ex = false) : CT E M_X4_addVolume (d + 3) [.ref 4096, .int (b0), .int (b1), .int (b2), .int (b3)] (hp o0 (ar T K os sc) (te_ tc tp tl_ tn trd tv tdg tf tla) (pl pg ph pc pm) m0 u0 l0) (.inr "java/lang/IllegalStateException") (hp o0 (ar T K os sc) (te_ tc tp tl_ tn trd tv tdg tf tla) (pl pg ph pc pm) m0 u0 l0) 1 6 := by
  obtain ⟨⟨hnv, h12⟩, ⟨hnc, h4⟩, ⟨hnr, h3⟩, ⟨hne, h60⟩, hLT, hHT⟩ := id hT
  refine CT.of (L := [some (.ref 4096), some (.int (b0)), some (.int (b1)), some (.int (b2)), some (.int (b3))]) rfl rfl ?_
  refine AR.run g_X4_addVolume_0_3 4 [some (.ref 4096), some (.int (b0)), some (.int (b1)), some (.int (b2)), some (.int (b3))] [.int (nI (19)), .int (nI (0)), .int (b0)] _ [] rfl trivial ?_
  refine AR.callS0 [.int (b0), .int (nI (0)), .int (nI (19))] [] lk_4_30 dc_X4_addVolume_4 (s_4requireRangeO _ b0 (nI (0)) (nI (19)) (by assumption)) (by first | rfl | (simp only [nI_add, pk_mul]; first | done | rfl)) rfl ?_
  refine AR.run g_X4_addVolume_7_3 10 [some (.ref 4096), some (.int (b0)), some (.int (b1)), some (.int (b2)), some (.int (b3))] [.int (nI (3)), .int (nI (1)), .int (b1)] _ [] rfl trivial ?_
  refine AR.callS0 [.int (b1), .int (nI (1)), .int (nI (3))] [] lk_4_30 dc_X4_addVolume_10 (s_4requireRangeO _ b1 (nI (1)) (nI (3)) (by assumption)) (by first | rfl | (simp only [nI_add, pk_mul]; first | done | rfl)) rfl ?_
  refine AR.run g_X4_addVolume_13_3 17 [some (.ref 4096), some (.int (b0)), some (.int (b1)), some (.int (b2)), some (.int (b3))] [.int (nI (40)), .int (nI (1)), .int (b2)] _ [] rfl trivial ?_
  refine AR.callS0 [.int (b2), .int (nI (1)), .int (nI (40))] [] lk_4_30 dc_X4_addVolume_17 (s_4requireRangeO _ b2 (nI (1)) (nI (40)) (by assumption)) (by first | rfl | (simp only [nI_add, pk_mul]; first | done | rfl)) rfl ?_
  refine AR.run g_X4_addVolume_20_3 24 [some (.ref 4096), some (.int (b0)), some (.int (b1)), some (.int (b2)), some (.int (b3))] [.int (nI (3)), .int (nI (0)), .int (b3)] _ [] rfl trivial ?_
  refine AR.callS0 [.int (b3), .int (nI (0)), .int (nI (3))] [] lk_4_30 dc_X4_addVolume_24 (s_4requireRangeO _ b3 (nI (0)) (nI (3)) (by assumption)) (by first | rfl | (simp only [nI_add, pk_mul]; first | done | rfl)) rfl ?_
  refine AR.run g_X4_addVolume_27_3 32 [some (.ref 4096), some (.int (b0)), some (.int (b1)), some (.int (b2)), some (.int (b3))] [.int (nI (0)), .ref 4097] _ [] rfl trivial ?_
  refine AR.callV1 (4097) [.int (nI (0))] [] lk_4_34 dc_X4_addVolume_32 rfl rfl (s_0number _ 0 (by omega)) (by first | rfl | (simp only [nI_add, pk_mul]; first | done | rfl)) rfl ?_
  refine AR.top hT.1.1 ?_
  refine AR.run g_X4_addVolume_35_1 37 [some (.ref 4096), some (.int (b0)), some (.int (b1)), some (.int (b2)), some (.int (b3))] [.int (nI (12)), .int (nI (nv))] _ [] rfl trivial ?_
  refine AR.lt2N (tgt := 50) (a := nv) (b := 12) dc_X4_addVolume_37 (by decide) (by first | rfl | (simp only [nI_add, pk_mul]; first | done | rfl)) (by first | rfl | (simp only [nI_add, pk_mul]; first | done | rfl)) (by omega) (by omega) (fun c37_1 => absurd c37_1 (by omega)) (fun c37_1 => ?_)
  exact AR.room (by omega) (by omega) (AR.throwS (text := "there are 12 volumes") (by assumption) rfl rfl ab_thrOk_42 th_38_42a th_38_42b (by simp [ab_strs]) dc_X4_addVolume_40 dc_X4_addVolume_43 dc_X4_addVolume_44 dc_X4_addVolume_46 dc_X4_addVolume_49 rfl)
def F_4addVolume (nv : Nat) : Int32 := (F_0newVolume nv)
def F_4addVolume_T (b0 : Int32) (b1 : Int32) (b2 : Int32) (b3 : Int32) (nv : Nat) (T : Nat → Nat → Int32) : Nat → Nat → Int32 := (F_0newVolume_T b0 b1 b2 b3 nv T)
def F_4addVolume_K (a : Nat) (b : Nat) (T : Nat → Nat → Int32) (K : Nat → Nat → Int32) : Nat → Nat → Int32 := (F_0save_K a b T K)
def F_4addVolume_os (a : Nat) (b : Nat) (os : Int32) : Int32 := (F_0save_os a b os)
def F_4addVolume_sc (b : Nat) (sc : Int32) : Int32 := (F_0save_sc b sc)
theorem g_X4_addVolume_50_2 : ab_oks M_X4_addVolume [(50, .aload_n 0, 1, 0, 0, 0, .null), (51, .getfield 10, 3, 4, 0, 171, .null)] = true := by decide +kernel
theorem lk_4_45 : ab_lkV "LeafCradles" 45 M_X0_save 0 [584, 585, 586, 30, 587] = true := by decide +kernel
theorem dc_X4_addVolume_54 : decode (AM.bytes M_X4_addVolume) 54 = .ok (.invokevirtual 45, 3) := by decide +kernel
theorem g_X4_addVolume_57_6 : ab_oks M_X4_addVolume [(57, .aload_n 0, 1, 0, 0, 0, .null), (58, .getfield 10, 3, 4, 0, 171, .null), (61, .iload_n 1, 1, 1, 0, 0, .null), (62, .iload_n 2, 1, 2, 0, 0, .null), (63, .iload_n 3, 1, 3, 0, 0, .null), (64, .iload 4, 2, 4, 0, 0, .null)] = true := by decide +kernel
theorem lk_4_48 : ab_lkV "LeafCradles" 48 M_X0_newVolume 4 [596, 597, 598, 30, 599] = true := by decide +kernel
theorem dc_X4_addVolume_66 : decode (AM.bytes M_X4_addVolume) 66 = .ok (.invokevirtual 48, 3) := by decide +kernel
theorem dc_X4_addVolume_69 : decode (AM.bytes M_X4_addVolume) 69 = .ok (.ireturn, 1) := by decide +kernel
set_option maxRecDepth 100000 in
set_option maxHeartbeats 4000000 in
theorem s_4addVolume {E : AE} (d : Nat) (b0 : Int32) (b1 : Int32) (b2 : Int32) (b3 : Int32) {nv : Nat} {nc : Nat} {nr : Nat} {ne : Nat} {a : Nat} {b : Nat}  {o0 m0 u0 l0 : List AC} {T K : Nat → Nat → Int32} {os sc : Int32} {tc tp : Nat → Int32} {tl_ tn trd tv tdg tf tla : Int32} {pg ph pc : Nat → Int32} {pm : Int32} (hT : TI T nv nc nr ne) (hos : os = nI a) (ha : a < 6) (hsc : sc = nI b) (hb : b ≤ 6) (ho0 : ¬ wi b0 (nI 0) (nI 19) = 0) (ho1 : ¬ wi b1 (nI 1) (nI 3) = 0) (ho2 : ¬ wi b2 (nI 1) (nI 40) = 0) (ho3 : ¬ wi b3 (nI 0) (nI 3) = 0) (hf : nv < 12) : CT E M_X4_addVolume (d + 3) [.ref 4096, .int (b0), .int (b1), .int (b2), .int (b3)] (hp o0 (ar T K os sc) (te_ tc tp tl_ tn trd tv tdg tf tla) (pl pg ph pc pm) m0 u0 l0) (.inl (some (.int (F_4addVolume nv)))) (hp o0 (ar (F_4addVolume_T b0 b1 b2 b3 nv T) (F_4addVolume_K a b T K) (F_4addVolume_os a b os) (F_4addVolume_sc b sc)) (te_ tc tp tl_ tn trd tv tdg tf tla) (pl pg ph pc pm) m0 u0 l0) 0 0 := by
  obtain ⟨⟨hnv, h12⟩, ⟨hnc, h4⟩, ⟨hnr, h3⟩, ⟨hne, h60⟩, hLT, hHT⟩ := id hT
  refine CT.of (L := [some (.ref 4096), some (.int (b0)), some (.int (b1)), some (.int (b2)), some (.int (b3))]) rfl rfl ?_
  refine AR.run g_X4_addVolume_0_3 4 [some (.ref 4096), some (.int (b0)), some (.int (b1)), some (.int (b2)), some (.int (b3))] [.int (nI (19)), .int (nI (0)), .int (b0)] _ [] rfl trivial ?_
  refine AR.callS0 [.int (b0), .int (nI (0)), .int (nI (19))] [] lk_4_30 dc_X4_addVolume_4 (s_4requireRangeO _ b0 (nI (0)) (nI (19)) (by assumption)) (by first | rfl | (simp only [nI_add, pk_mul]; first | done | rfl)) rfl ?_
  refine AR.run g_X4_addVolume_7_3 10 [some (.ref 4096), some (.int (b0)), some (.int (b1)), some (.int (b2)), some (.int (b3))] [.int (nI (3)), .int (nI (1)), .int (b1)] _ [] rfl trivial ?_
  refine AR.callS0 [.int (b1), .int (nI (1)), .int (nI (3))] [] lk_4_30 dc_X4_addVolume_10 (s_4requireRangeO _ b1 (nI (1)) (nI (3)) (by assumption)) (by first | rfl | (simp only [nI_add, pk_mul]; first | done | rfl)) rfl ?_
  refine AR.run g_X4_addVolume_13_3 17 [some (.ref 4096), some (.int (b0)), some (.int (b1)), some (.int (b2)), some (.int (b3))] [.int (nI (40)), .int (nI (1)), .int (b2)] _ [] rfl trivial ?_
  refine AR.callS0 [.int (b2), .int (nI (1)), .int (nI (40))] [] lk_4_30 dc_X4_addVolume_17 (s_4requireRangeO _ b2 (nI (1)) (nI (40)) (by assumption)) (by first | rfl | (simp only [nI_add, pk_mul]; first | done | rfl)) rfl ?_
  refine AR.run g_X4_addVolume_20_3 24 [some (.ref 4096), some (.int (b0)), some (.int (b1)), some (.int (b2)), some (.int (b3))] [.int (nI (3)), .int (nI (0)), .int (b3)] _ [] rfl trivial ?_
  refine AR.callS0 [.int (b3), .int (nI (0)), .int (nI (3))] [] lk_4_30 dc_X4_addVolume_24 (s_4requireRangeO _ b3 (nI (0)) (nI (3)) (by assumption)) (by first | rfl | (simp only [nI_add, pk_mul]; first | done | rfl)) rfl ?_
  refine AR.run g_X4_addVolume_27_3 32 [some (.ref 4096), some (.int (b0)), some (.int (b1)), some (.int (b2)), some (.int (b3))] [.int (nI (0)), .ref 4097] _ [] rfl trivial ?_
  refine AR.callV1 (4097) [.int (nI (0))] [] lk_4_34 dc_X4_addVolume_32 rfl rfl (s_0number _ 0 (by omega)) (by first | rfl | (simp only [nI_add, pk_mul]; first | done | rfl)) rfl ?_
  refine AR.top hT.1.1 ?_
  refine AR.run g_X4_addVolume_35_1 37 [some (.ref 4096), some (.int (b0)), some (.int (b1)), some (.int (b2)), some (.int (b3))] [.int (nI (12)), .int (nI (nv))] _ [] rfl trivial ?_
  refine AR.lt2N (tgt := 50) (a := nv) (b := 12) dc_X4_addVolume_37 (by decide) (by first | rfl | (simp only [nI_add, pk_mul]; first | done | rfl)) (by first | rfl | (simp only [nI_add, pk_mul]; first | done | rfl)) (by omega) (by omega) (fun c37_1 => ?_) (fun c37_1 => absurd c37_1 (by omega))
  refine AR.run g_X4_addVolume_50_2 54 [some (.ref 4096), some (.int (b0)), some (.int (b1)), some (.int (b2)), some (.int (b3))] [.ref 4097] _ [] rfl trivial ?_
  refine AR.callV0 (4097) [] [] lk_4_45 dc_X4_addVolume_54 rfl rfl (s_0save _  (by assumption) (by omega) (by assumption) (by omega)) (by first | rfl | (simp only [nI_add, pk_mul]; first | done | rfl)) rfl ?_
  refine AR.run g_X4_addVolume_57_6 66 [some (.ref 4096), some (.int (b0)), some (.int (b1)), some (.int (b2)), some (.int (b3))] [.int (b3), .int (b2), .int (b1), .int (b0), .ref 4097] _ [] rfl trivial ?_
  refine AR.callV1 (4097) [.int (b0), .int (b1), .int (b2), .int (b3)] [] lk_4_48 dc_X4_addVolume_66 rfl rfl (s_0newVolume _ b0 b1 b2 b3 (by assumption) (by omega)) (by first | rfl | (simp only [nI_add, pk_mul]; first | done | rfl)) rfl ?_
  have e2_0 : F_4addVolume nv = (F_0newVolume nv) := by rw [F_4addVolume]
  have e2_1 : F_4addVolume_T b0 b1 b2 b3 nv T = (F_0newVolume_T b0 b1 b2 b3 nv T) := by rw [F_4addVolume_T]
  have e2_2 : F_4addVolume_K a b T K = (F_0save_K a b T K) := by rw [F_4addVolume_K]
  have e2_3 : F_4addVolume_os a b os = (F_0save_os a b os) := by rw [F_4addVolume_os]
  have e2_4 : F_4addVolume_sc b sc = (F_0save_sc b sc) := by rw [F_4addVolume_sc]
  exact AR.retI dc_X4_addVolume_69 rfl e2_0.symm (by rw [e2_1, e2_2, e2_3, e2_4])
theorem g_X4_addCradle_0_3 : ab_oks M_X4_addCradle [(0, .iload_n 1, 1, 1, 0, 0, .null), (1, .iconst 1, 1, 0, 0, 0, .int (nI (1))), (2, .iconst 3, 1, 0, 0, 0, .int (nI (3)))] = true := by decide +kernel
theorem dc_X4_addCradle_3 : decode (AM.bytes M_X4_addCradle) 3 = .ok (.invokestatic 30, 3) := by decide +kernel
set_option maxRecDepth 100000 in
set_option maxHeartbeats 4000000 in
theorem s_4addCradleA {E : AE} (d : Nat) (b0 : Int32) (b1 : Int32) {nv : Nat} {nc : Nat} {nr : Nat} {ne : Nat}  {o0 m0 u0 l0 : List AC} {T K : Nat → Nat → Int32} {os sc : Int32} {tc tp : Nat → Int32} {tl_ tn trd tv tdg tf tla : Int32} {pg ph pc : Nat → Int32} {pm : Int32} (hT : TI T nv nc nr ne) (hx : wi b0 (nI 1) (nI 3) = 0) (hex : E.ex = false) : CT E M_X4_addCradle (d + 3) [.ref 4096, .int (b0), .int (b1)] (hp o0 (ar T K os sc) (te_ tc tp tl_ tn trd tv tdg tf tla) (pl pg ph pc pm) m0 u0 l0) (.inr "java/lang/IllegalArgumentException") (hp o0 (ar T K os sc) (te_ tc tp tl_ tn trd tv tdg tf tla) (pl pg ph pc pm) m0 u0 l0) 1 6 := by
  obtain ⟨⟨hnv, h12⟩, ⟨hnc, h4⟩, ⟨hnr, h3⟩, ⟨hne, h60⟩, hLT, hHT⟩ := id hT
  refine CT.of (L := [some (.ref 4096), some (.int (b0)), some (.int (b1))]) rfl rfl ?_
  refine AR.run g_X4_addCradle_0_3 3 [some (.ref 4096), some (.int (b0)), some (.int (b1))] [.int (nI (3)), .int (nI (1)), .int (b0)] _ [] rfl trivial ?_
  exact AR.end' rfl rfl (AR.room (by omega) (by omega) (AR.callSx [.int (b0), .int (nI (1)), .int (nI (3))] [] lk_4_30 dc_X4_addCradle_3 (s_4requireRangeB _ b0 (nI (1)) (nI (3)) (by assumption) (by assumption)) (by first | rfl | (simp only [nI_add, pk_mul]; first | done | rfl)) rfl rfl))
theorem g_X4_addCradle_6_3 : ab_oks M_X4_addCradle [(6, .iload_n 2, 1, 2, 0, 0, .null), (7, .iconst 0, 1, 0, 0, 0, .int (nI (0))), (8, .iconst 2, 1, 0, 0, 0, .int (nI (2)))] = true := by decide +kernel
theorem dc_X4_addCradle_9 : decode (AM.bytes M_X4_addCradle) 9 = .ok (.invokestatic 30, 3) := by decide +kernel
set_option maxRecDepth 100000 in
set_option maxHeartbeats 4000000 in
theorem s_4addCradleB {E : AE} (d : Nat) (b0 : Int32) (b1 : Int32) {nv : Nat} {nc : Nat} {nr : Nat} {ne : Nat}  {o0 m0 u0 l0 : List AC} {T K : Nat → Nat → Int32} {os sc : Int32} {tc tp : Nat → Int32} {tl_ tn trd tv tdg tf tla : Int32} {pg ph pc : Nat → Int32} {pm : Int32} (hT : TI T nv nc nr ne) (ho0 : ¬ wi b0 (nI 1) (nI 3) = 0) (hx : wi b1 (nI 0) (nI 2) = 0) (hex : E.ex = false) : CT E M_X4_addCradle (d + 3) [.ref 4096, .int (b0), .int (b1)] (hp o0 (ar T K os sc) (te_ tc tp tl_ tn trd tv tdg tf tla) (pl pg ph pc pm) m0 u0 l0) (.inr "java/lang/IllegalArgumentException") (hp o0 (ar T K os sc) (te_ tc tp tl_ tn trd tv tdg tf tla) (pl pg ph pc pm) m0 u0 l0) 1 6 := by
  obtain ⟨⟨hnv, h12⟩, ⟨hnc, h4⟩, ⟨hnr, h3⟩, ⟨hne, h60⟩, hLT, hHT⟩ := id hT
  refine CT.of (L := [some (.ref 4096), some (.int (b0)), some (.int (b1))]) rfl rfl ?_
  refine AR.run g_X4_addCradle_0_3 3 [some (.ref 4096), some (.int (b0)), some (.int (b1))] [.int (nI (3)), .int (nI (1)), .int (b0)] _ [] rfl trivial ?_
  refine AR.callS0 [.int (b0), .int (nI (1)), .int (nI (3))] [] lk_4_30 dc_X4_addCradle_3 (s_4requireRangeO _ b0 (nI (1)) (nI (3)) (by assumption)) (by first | rfl | (simp only [nI_add, pk_mul]; first | done | rfl)) rfl ?_
  refine AR.run g_X4_addCradle_6_3 9 [some (.ref 4096), some (.int (b0)), some (.int (b1))] [.int (nI (2)), .int (nI (0)), .int (b1)] _ [] rfl trivial ?_
  exact AR.end' rfl rfl (AR.room (by omega) (by omega) (AR.callSx [.int (b1), .int (nI (0)), .int (nI (2))] [] lk_4_30 dc_X4_addCradle_9 (s_4requireRangeB _ b1 (nI (0)) (nI (2)) (by assumption) (by assumption)) (by first | rfl | (simp only [nI_add, pk_mul]; first | done | rfl)) rfl rfl))
theorem g_X4_addCradle_12_3 : ab_oks M_X4_addCradle [(12, .aload_n 0, 1, 0, 0, 0, .null), (13, .getfield 10, 3, 4, 0, 171, .null), (16, .iconst 1, 1, 0, 0, 0, .int (nI (1)))] = true := by decide +kernel
theorem dc_X4_addCradle_17 : decode (AM.bytes M_X4_addCradle) 17 = .ok (.invokevirtual 34, 3) := by decide +kernel
theorem g_X4_addCradle_20_1 : ab_oks M_X4_addCradle [(20, .iconst 4, 1, 0, 0, 0, .int (nI (4)))] = true := by decide +kernel
theorem dc_X4_addCradle_21 : decode (AM.bytes M_X4_addCradle) 21 = .ok (.if_icmp .lt 13, 3) := by decide +kernel
theorem dc_X4_addCradle_24 : decode (AM.bytes M_X4_addCradle) 24 = .ok (.new 38, 3) := by decide +kernel
theorem dc_X4_addCradle_27 : decode (AM.bytes M_X4_addCradle) 27 = .ok (.dup, 1) := by decide +kernel
theorem dc_X4_addCradle_28 : decode (AM.bytes M_X4_addCradle) 28 = .ok (.ldc 52, 2) := by decide +kernel
theorem dc_X4_addCradle_30 : decode (AM.bytes M_X4_addCradle) 30 = .ok (.invokespecial 42, 3) := by decide +kernel
theorem dc_X4_addCradle_33 : decode (AM.bytes M_X4_addCradle) 33 = .ok (.athrow, 1) := by decide +kernel
set_option maxRecDepth 100000 in
set_option maxHeartbeats 4000000 in
theorem s_4addCradleE {E : AE} (d : Nat) (b0 : Int32) (b1 : Int32) {nv : Nat} {nc : Nat} {nr : Nat} {ne : Nat}  {o0 m0 u0 l0 : List AC} {T K : Nat → Nat → Int32} {os sc : Int32} {tc tp : Nat → Int32} {tl_ tn trd tv tdg tf tla : Int32} {pg ph pc : Nat → Int32} {pm : Int32} (hT : TI T nv nc nr ne) (ho0 : ¬ wi b0 (nI 1) (nI 3) = 0) (ho1 : ¬ wi b1 (nI 0) (nI 2) = 0) (hf : nc = 4) (hex : E.ex = false) : CT E M_X4_addCradle (d + 3) [.ref 4096, .int (b0), .int (b1)] (hp o0 (ar T K os sc) (te_ tc tp tl_ tn trd tv tdg tf tla) (pl pg ph pc pm) m0 u0 l0) (.inr "java/lang/IllegalStateException") (hp o0 (ar T K os sc) (te_ tc tp tl_ tn trd tv tdg tf tla) (pl pg ph pc pm) m0 u0 l0) 1 6 := by
  obtain ⟨⟨hnv, h12⟩, ⟨hnc, h4⟩, ⟨hnr, h3⟩, ⟨hne, h60⟩, hLT, hHT⟩ := id hT
  refine CT.of (L := [some (.ref 4096), some (.int (b0)), some (.int (b1))]) rfl rfl ?_
  refine AR.run g_X4_addCradle_0_3 3 [some (.ref 4096), some (.int (b0)), some (.int (b1))] [.int (nI (3)), .int (nI (1)), .int (b0)] _ [] rfl trivial ?_
  refine AR.callS0 [.int (b0), .int (nI (1)), .int (nI (3))] [] lk_4_30 dc_X4_addCradle_3 (s_4requireRangeO _ b0 (nI (1)) (nI (3)) (by assumption)) (by first | rfl | (simp only [nI_add, pk_mul]; first | done | rfl)) rfl ?_
  refine AR.run g_X4_addCradle_6_3 9 [some (.ref 4096), some (.int (b0)), some (.int (b1))] [.int (nI (2)), .int (nI (0)), .int (b1)] _ [] rfl trivial ?_
  refine AR.callS0 [.int (b1), .int (nI (0)), .int (nI (2))] [] lk_4_30 dc_X4_addCradle_9 (s_4requireRangeO _ b1 (nI (0)) (nI (2)) (by assumption)) (by first | rfl | (simp only [nI_add, pk_mul]; first | done | rfl)) rfl ?_
  refine AR.run g_X4_addCradle_12_3 17 [some (.ref 4096), some (.int (b0)), some (.int (b1))] [.int (nI (1)), .ref 4097] _ [] rfl trivial ?_
  refine AR.callV1 (4097) [.int (nI (1))] [] lk_4_34 dc_X4_addCradle_17 rfl rfl (s_0number _ 1 (by omega)) (by first | rfl | (simp only [nI_add, pk_mul]; first | done | rfl)) rfl ?_
  refine AR.top hT.2.1.1 ?_
  refine AR.run g_X4_addCradle_20_1 21 [some (.ref 4096), some (.int (b0)), some (.int (b1))] [.int (nI (4)), .int (nI (nc))] _ [] rfl trivial ?_
  refine AR.lt2N (tgt := 34) (a := nc) (b := 4) dc_X4_addCradle_21 (by decide) (by first | rfl | (simp only [nI_add, pk_mul]; first | done | rfl)) (by first | rfl | (simp only [nI_add, pk_mul]; first | done | rfl)) (by omega) (by omega) (fun c21_1 => absurd c21_1 (by omega)) (fun c21_1 => ?_)
  exact AR.room (by omega) (by omega) (AR.throwS (text := "there are 4 cradles") (by assumption) rfl rfl ab_thrOk_42 th_38_42a th_38_42b (by simp [ab_strs]) dc_X4_addCradle_24 dc_X4_addCradle_27 dc_X4_addCradle_28 dc_X4_addCradle_30 dc_X4_addCradle_33 rfl)
def F_4addCradle (nc : Nat) : Int32 := (F_0newCradle nc)
def F_4addCradle_T (b0 : Int32) (b1 : Int32) (nc : Nat) (T : Nat → Nat → Int32) : Nat → Nat → Int32 := (F_0newCradle_T b0 b1 nc T)
def F_4addCradle_K (a : Nat) (b : Nat) (T : Nat → Nat → Int32) (K : Nat → Nat → Int32) : Nat → Nat → Int32 := (F_0save_K a b T K)
def F_4addCradle_os (a : Nat) (b : Nat) (os : Int32) : Int32 := (F_0save_os a b os)
def F_4addCradle_sc (b : Nat) (sc : Int32) : Int32 := (F_0save_sc b sc)
theorem g_X4_addCradle_34_2 : ab_oks M_X4_addCradle [(34, .aload_n 0, 1, 0, 0, 0, .null), (35, .getfield 10, 3, 4, 0, 171, .null)] = true := by decide +kernel
theorem dc_X4_addCradle_38 : decode (AM.bytes M_X4_addCradle) 38 = .ok (.invokevirtual 45, 3) := by decide +kernel
theorem g_X4_addCradle_41_4 : ab_oks M_X4_addCradle [(41, .aload_n 0, 1, 0, 0, 0, .null), (42, .getfield 10, 3, 4, 0, 171, .null), (45, .iload_n 1, 1, 1, 0, 0, .null), (46, .iload_n 2, 1, 2, 0, 0, .null)] = true := by decide +kernel
theorem lk_4_54 : ab_lkV "LeafCradles" 54 M_X0_newCradle 2 [605, 606, 607, 30, 608] = true := by decide +kernel
theorem dc_X4_addCradle_47 : decode (AM.bytes M_X4_addCradle) 47 = .ok (.invokevirtual 54, 3) := by decide +kernel
theorem dc_X4_addCradle_50 : decode (AM.bytes M_X4_addCradle) 50 = .ok (.ireturn, 1) := by decide +kernel
set_option maxRecDepth 100000 in
set_option maxHeartbeats 4000000 in
theorem s_4addCradle {E : AE} (d : Nat) (b0 : Int32) (b1 : Int32) {nv : Nat} {nc : Nat} {nr : Nat} {ne : Nat} {a : Nat} {b : Nat}  {o0 m0 u0 l0 : List AC} {T K : Nat → Nat → Int32} {os sc : Int32} {tc tp : Nat → Int32} {tl_ tn trd tv tdg tf tla : Int32} {pg ph pc : Nat → Int32} {pm : Int32} (hT : TI T nv nc nr ne) (hos : os = nI a) (ha : a < 6) (hsc : sc = nI b) (hb : b ≤ 6) (ho0 : ¬ wi b0 (nI 1) (nI 3) = 0) (ho1 : ¬ wi b1 (nI 0) (nI 2) = 0) (hf : nc < 4) : CT E M_X4_addCradle (d + 3) [.ref 4096, .int (b0), .int (b1)] (hp o0 (ar T K os sc) (te_ tc tp tl_ tn trd tv tdg tf tla) (pl pg ph pc pm) m0 u0 l0) (.inl (some (.int (F_4addCradle nc)))) (hp o0 (ar (F_4addCradle_T b0 b1 nc T) (F_4addCradle_K a b T K) (F_4addCradle_os a b os) (F_4addCradle_sc b sc)) (te_ tc tp tl_ tn trd tv tdg tf tla) (pl pg ph pc pm) m0 u0 l0) 0 0 := by
  obtain ⟨⟨hnv, h12⟩, ⟨hnc, h4⟩, ⟨hnr, h3⟩, ⟨hne, h60⟩, hLT, hHT⟩ := id hT
  refine CT.of (L := [some (.ref 4096), some (.int (b0)), some (.int (b1))]) rfl rfl ?_
  refine AR.run g_X4_addCradle_0_3 3 [some (.ref 4096), some (.int (b0)), some (.int (b1))] [.int (nI (3)), .int (nI (1)), .int (b0)] _ [] rfl trivial ?_
  refine AR.callS0 [.int (b0), .int (nI (1)), .int (nI (3))] [] lk_4_30 dc_X4_addCradle_3 (s_4requireRangeO _ b0 (nI (1)) (nI (3)) (by assumption)) (by first | rfl | (simp only [nI_add, pk_mul]; first | done | rfl)) rfl ?_
  refine AR.run g_X4_addCradle_6_3 9 [some (.ref 4096), some (.int (b0)), some (.int (b1))] [.int (nI (2)), .int (nI (0)), .int (b1)] _ [] rfl trivial ?_
  refine AR.callS0 [.int (b1), .int (nI (0)), .int (nI (2))] [] lk_4_30 dc_X4_addCradle_9 (s_4requireRangeO _ b1 (nI (0)) (nI (2)) (by assumption)) (by first | rfl | (simp only [nI_add, pk_mul]; first | done | rfl)) rfl ?_
  refine AR.run g_X4_addCradle_12_3 17 [some (.ref 4096), some (.int (b0)), some (.int (b1))] [.int (nI (1)), .ref 4097] _ [] rfl trivial ?_
  refine AR.callV1 (4097) [.int (nI (1))] [] lk_4_34 dc_X4_addCradle_17 rfl rfl (s_0number _ 1 (by omega)) (by first | rfl | (simp only [nI_add, pk_mul]; first | done | rfl)) rfl ?_
  refine AR.top hT.2.1.1 ?_
  refine AR.run g_X4_addCradle_20_1 21 [some (.ref 4096), some (.int (b0)), some (.int (b1))] [.int (nI (4)), .int (nI (nc))] _ [] rfl trivial ?_
  refine AR.lt2N (tgt := 34) (a := nc) (b := 4) dc_X4_addCradle_21 (by decide) (by first | rfl | (simp only [nI_add, pk_mul]; first | done | rfl)) (by first | rfl | (simp only [nI_add, pk_mul]; first | done | rfl)) (by omega) (by omega) (fun c21_1 => ?_) (fun c21_1 => absurd c21_1 (by omega))
  refine AR.run g_X4_addCradle_34_2 38 [some (.ref 4096), some (.int (b0)), some (.int (b1))] [.ref 4097] _ [] rfl trivial ?_
  refine AR.callV0 (4097) [] [] lk_4_45 dc_X4_addCradle_38 rfl rfl (s_0save _  (by assumption) (by omega) (by assumption) (by omega)) (by first | rfl | (simp only [nI_add, pk_mul]; first | done | rfl)) rfl ?_
  refine AR.run g_X4_addCradle_41_4 47 [some (.ref 4096), some (.int (b0)), some (.int (b1))] [.int (b1), .int (b0), .ref 4097] _ [] rfl trivial ?_
  refine AR.callV1 (4097) [.int (b0), .int (b1)] [] lk_4_54 dc_X4_addCradle_47 rfl rfl (s_0newCradle _ b0 b1 (by assumption) (by omega)) (by first | rfl | (simp only [nI_add, pk_mul]; first | done | rfl)) rfl ?_
  have e2_0 : F_4addCradle nc = (F_0newCradle nc) := by rw [F_4addCradle]
  have e2_1 : F_4addCradle_T b0 b1 nc T = (F_0newCradle_T b0 b1 nc T) := by rw [F_4addCradle_T]
  have e2_2 : F_4addCradle_K a b T K = (F_0save_K a b T K) := by rw [F_4addCradle_K]
  have e2_3 : F_4addCradle_os a b os = (F_0save_os a b os) := by rw [F_4addCradle_os]
  have e2_4 : F_4addCradle_sc b sc = (F_0save_sc b sc) := by rw [F_4addCradle_sc]
  exact AR.retI dc_X4_addCradle_50 rfl e2_0.symm (by rw [e2_1, e2_2, e2_3, e2_4])
theorem g_X4_addCarrier_0_3 : ab_oks M_X4_addCarrier [(0, .aload_n 0, 1, 0, 0, 0, .null), (1, .getfield 10, 3, 4, 0, 171, .null), (4, .iconst 2, 1, 0, 0, 0, .int (nI (2)))] = true := by decide +kernel
theorem dc_X4_addCarrier_5 : decode (AM.bytes M_X4_addCarrier) 5 = .ok (.invokevirtual 34, 3) := by decide +kernel
theorem g_X4_addCarrier_8_1 : ab_oks M_X4_addCarrier [(8, .iconst 3, 1, 0, 0, 0, .int (nI (3)))] = true := by decide +kernel
theorem dc_X4_addCarrier_9 : decode (AM.bytes M_X4_addCarrier) 9 = .ok (.if_icmp .lt 13, 3) := by decide +kernel
theorem dc_X4_addCarrier_12 : decode (AM.bytes M_X4_addCarrier) 12 = .ok (.new 38, 3) := by decide +kernel
theorem dc_X4_addCarrier_15 : decode (AM.bytes M_X4_addCarrier) 15 = .ok (.dup, 1) := by decide +kernel
theorem dc_X4_addCarrier_16 : decode (AM.bytes M_X4_addCarrier) 16 = .ok (.ldc 58, 2) := by decide +kernel
theorem dc_X4_addCarrier_18 : decode (AM.bytes M_X4_addCarrier) 18 = .ok (.invokespecial 42, 3) := by decide +kernel
theorem dc_X4_addCarrier_21 : decode (AM.bytes M_X4_addCarrier) 21 = .ok (.athrow, 1) := by decide +kernel
set_option maxRecDepth 100000 in
set_option maxHeartbeats 4000000 in
theorem s_4addCarrierE {E : AE} (d : Nat) {nv : Nat} {nc : Nat} {nr : Nat} {ne : Nat}  {o0 m0 u0 l0 : List AC} {T K : Nat → Nat → Int32} {os sc : Int32} {tc tp : Nat → Int32} {tl_ tn trd tv tdg tf tla : Int32} {pg ph pc : Nat → Int32} {pm : Int32} (hT : TI T nv nc nr ne) (hf : nr = 3) (hex : E.ex = false) : CT E M_X4_addCarrier (d + 3) [.ref 4096] (hp o0 (ar T K os sc) (te_ tc tp tl_ tn trd tv tdg tf tla) (pl pg ph pc pm) m0 u0 l0) (.inr "java/lang/IllegalStateException") (hp o0 (ar T K os sc) (te_ tc tp tl_ tn trd tv tdg tf tla) (pl pg ph pc pm) m0 u0 l0) 1 6 := by
  obtain ⟨⟨hnv, h12⟩, ⟨hnc, h4⟩, ⟨hnr, h3⟩, ⟨hne, h60⟩, hLT, hHT⟩ := id hT
  refine CT.of (L := [some (.ref 4096)]) rfl rfl ?_
  refine AR.run g_X4_addCarrier_0_3 5 [some (.ref 4096)] [.int (nI (2)), .ref 4097] _ [] rfl trivial ?_
  refine AR.callV1 (4097) [.int (nI (2))] [] lk_4_34 dc_X4_addCarrier_5 rfl rfl (s_0number _ 2 (by omega)) (by first | rfl | (simp only [nI_add, pk_mul]; first | done | rfl)) rfl ?_
  refine AR.top hT.2.2.1.1 ?_
  refine AR.run g_X4_addCarrier_8_1 9 [some (.ref 4096)] [.int (nI (3)), .int (nI (nr))] _ [] rfl trivial ?_
  refine AR.lt2N (tgt := 22) (a := nr) (b := 3) dc_X4_addCarrier_9 (by decide) (by first | rfl | (simp only [nI_add, pk_mul]; first | done | rfl)) (by first | rfl | (simp only [nI_add, pk_mul]; first | done | rfl)) (by omega) (by omega) (fun c9_1 => absurd c9_1 (by omega)) (fun c9_1 => ?_)
  exact AR.room (by omega) (by omega) (AR.throwS (text := "there are 3 carriers") (by assumption) rfl rfl ab_thrOk_42 th_38_42a th_38_42b (by simp [ab_strs]) dc_X4_addCarrier_12 dc_X4_addCarrier_15 dc_X4_addCarrier_16 dc_X4_addCarrier_18 dc_X4_addCarrier_21 rfl)
def F_4addCarrier (nr : Nat) : Int32 := (F_0newCarrier nr)
def F_4addCarrier_T (T : Nat → Nat → Int32) : Nat → Nat → Int32 := (F_0newCarrier_T T)
def F_4addCarrier_K (a : Nat) (b : Nat) (T : Nat → Nat → Int32) (K : Nat → Nat → Int32) : Nat → Nat → Int32 := (F_0save_K a b T K)
def F_4addCarrier_os (a : Nat) (b : Nat) (os : Int32) : Int32 := (F_0save_os a b os)
def F_4addCarrier_sc (b : Nat) (sc : Int32) : Int32 := (F_0save_sc b sc)
theorem g_X4_addCarrier_22_2 : ab_oks M_X4_addCarrier [(22, .aload_n 0, 1, 0, 0, 0, .null), (23, .getfield 10, 3, 4, 0, 171, .null)] = true := by decide +kernel
theorem dc_X4_addCarrier_26 : decode (AM.bytes M_X4_addCarrier) 26 = .ok (.invokevirtual 45, 3) := by decide +kernel
theorem g_X4_addCarrier_29_2 : ab_oks M_X4_addCarrier [(29, .aload_n 0, 1, 0, 0, 0, .null), (30, .getfield 10, 3, 4, 0, 171, .null)] = true := by decide +kernel
theorem lk_4_60 : ab_lkV "LeafCradles" 60 M_X0_newCarrier 0 [614, 615, 616, 30, 617] = true := by decide +kernel
theorem dc_X4_addCarrier_33 : decode (AM.bytes M_X4_addCarrier) 33 = .ok (.invokevirtual 60, 3) := by decide +kernel
theorem dc_X4_addCarrier_36 : decode (AM.bytes M_X4_addCarrier) 36 = .ok (.ireturn, 1) := by decide +kernel
set_option maxRecDepth 100000 in
set_option maxHeartbeats 4000000 in
theorem s_4addCarrier {E : AE} (d : Nat) {nv : Nat} {nc : Nat} {nr : Nat} {ne : Nat} {a : Nat} {b : Nat}  {o0 m0 u0 l0 : List AC} {T K : Nat → Nat → Int32} {os sc : Int32} {tc tp : Nat → Int32} {tl_ tn trd tv tdg tf tla : Int32} {pg ph pc : Nat → Int32} {pm : Int32} (hT : TI T nv nc nr ne) (hos : os = nI a) (ha : a < 6) (hsc : sc = nI b) (hb : b ≤ 6) (hf : nr < 3) : CT E M_X4_addCarrier (d + 3) [.ref 4096] (hp o0 (ar T K os sc) (te_ tc tp tl_ tn trd tv tdg tf tla) (pl pg ph pc pm) m0 u0 l0) (.inl (some (.int (F_4addCarrier nr)))) (hp o0 (ar (F_4addCarrier_T T) (F_4addCarrier_K a b T K) (F_4addCarrier_os a b os) (F_4addCarrier_sc b sc)) (te_ tc tp tl_ tn trd tv tdg tf tla) (pl pg ph pc pm) m0 u0 l0) 0 0 := by
  obtain ⟨⟨hnv, h12⟩, ⟨hnc, h4⟩, ⟨hnr, h3⟩, ⟨hne, h60⟩, hLT, hHT⟩ := id hT
  refine CT.of (L := [some (.ref 4096)]) rfl rfl ?_
  refine AR.run g_X4_addCarrier_0_3 5 [some (.ref 4096)] [.int (nI (2)), .ref 4097] _ [] rfl trivial ?_
  refine AR.callV1 (4097) [.int (nI (2))] [] lk_4_34 dc_X4_addCarrier_5 rfl rfl (s_0number _ 2 (by omega)) (by first | rfl | (simp only [nI_add, pk_mul]; first | done | rfl)) rfl ?_
  refine AR.top hT.2.2.1.1 ?_
  refine AR.run g_X4_addCarrier_8_1 9 [some (.ref 4096)] [.int (nI (3)), .int (nI (nr))] _ [] rfl trivial ?_
  refine AR.lt2N (tgt := 22) (a := nr) (b := 3) dc_X4_addCarrier_9 (by decide) (by first | rfl | (simp only [nI_add, pk_mul]; first | done | rfl)) (by first | rfl | (simp only [nI_add, pk_mul]; first | done | rfl)) (by omega) (by omega) (fun c9_1 => ?_) (fun c9_1 => absurd c9_1 (by omega))
  refine AR.run g_X4_addCarrier_22_2 26 [some (.ref 4096)] [.ref 4097] _ [] rfl trivial ?_
  refine AR.callV0 (4097) [] [] lk_4_45 dc_X4_addCarrier_26 rfl rfl (s_0save _  (by assumption) (by omega) (by assumption) (by omega)) (by first | rfl | (simp only [nI_add, pk_mul]; first | done | rfl)) rfl ?_
  refine AR.run g_X4_addCarrier_29_2 33 [some (.ref 4096)] [.ref 4097] _ [] rfl trivial ?_
  refine AR.callV1 (4097) [] [] lk_4_60 dc_X4_addCarrier_33 rfl rfl (s_0newCarrier _  (by assumption)) (by first | rfl | (simp only [nI_add, pk_mul]; first | done | rfl)) rfl ?_
  have e2_0 : F_4addCarrier nr = (F_0newCarrier nr) := by rw [F_4addCarrier]
  have e2_1 : F_4addCarrier_T T = (F_0newCarrier_T T) := by rw [F_4addCarrier_T]
  have e2_2 : F_4addCarrier_K a b T K = (F_0save_K a b T K) := by rw [F_4addCarrier_K]
  have e2_3 : F_4addCarrier_os a b os = (F_0save_os a b os) := by rw [F_4addCarrier_os]
  have e2_4 : F_4addCarrier_sc b sc = (F_0save_sc b sc) := by rw [F_4addCarrier_sc]
  exact AR.retI dc_X4_addCarrier_36 rfl e2_0.symm (by rw [e2_1, e2_2, e2_3, e2_4])
theorem g_X4_leastOfSetting_0_1 : ab_oks M_X4_leastOfSetting [(0, .iload_n 0, 1, 0, 0, 0, .null)] = true := by decide +kernel
theorem dc_X4_leastOfSetting_1 : decode (AM.bytes M_X4_leastOfSetting) 1 = .ok (.ifCond .lt 19, 3) := by decide +kernel
theorem g_X4_leastOfSetting_4_3 : ab_oks M_X4_leastOfSetting [(4, .iload_n 0, 1, 0, 0, 0, .null), (5, .getstatic 245, 3, 1, 0, 788, .null), (8, .arraylength, 1, 0, 0, 0, .null)] = true := by decide +kernel
theorem dc_X4_leastOfSetting_9 : decode (AM.bytes M_X4_leastOfSetting) 9 = .ok (.if_icmp .ge 11, 3) := by decide +kernel
theorem g_X4_leastOfSetting_12_2 : ab_oks M_X4_leastOfSetting [(12, .getstatic 245, 3, 1, 0, 788, .null), (15, .iload_n 0, 1, 0, 0, 0, .null)] = true := by decide +kernel
theorem ok_X4_leastOfSetting_16 : ab_ok M_X4_leastOfSetting (16, .iaload, 1, 0, 0, 0, .null) = true := by decide +kernel
theorem g_X4_leastOfSetting_17_1 : ab_oks M_X4_leastOfSetting [(17, .goto 4, 3, 21, 0, 0, .null)] = true := by decide +kernel
theorem dc_X4_leastOfSetting_21 : decode (AM.bytes M_X4_leastOfSetting) 21 = .ok (.ireturn, 1) := by decide +kernel
set_option maxRecDepth 100000 in
set_option maxHeartbeats 4000000 in
theorem s_4leastOfSetting {E : AE} (d : Nat) (k : Nat)  {a0 t0 p0 m0 u0 l0 : List AC} {sx : Nat → Int32} {sl : Nat} (hk : k < 4) : CT E M_X4_leastOfSetting d [.int (nI (k))] (hp (ol_ sx sl lsS gsS) a0 t0 p0 m0 u0 l0) (.inl (some (.int (lsS k)))) (hp (ol_ sx sl lsS gsS) a0 t0 p0 m0 u0 l0) 0 0 := by
  refine CT.of (L := [some (.int (nI (k)))]) rfl rfl ?_
  refine AR.run g_X4_leastOfSetting_0_1 1 [some (.int (nI (k)))] [.int (nI (k))] _ [] rfl trivial ?_
  refine AR.ltN (tgt := 20) (a := k) dc_X4_leastOfSetting_1 (by decide) (by first | rfl | (simp only [nI_add, pk_mul]; first | done | rfl)) (by omega) (fun c1_1 => absurd c1_1 (fun q => q)) (fun c1_1 => ?_)
  refine AR.run g_X4_leastOfSetting_4_3 9 [some (.int (nI (k)))] [.int (nI (4)), .int (nI (k))] _ [] rfl trivial ?_
  refine AR.ge2N (tgt := 20) (a := k) (b := 4) dc_X4_leastOfSetting_9 (by decide) (by first | rfl | (simp only [nI_add, pk_mul]; first | done | rfl)) (by first | rfl | (simp only [nI_add, pk_mul]; first | done | rfl)) (by omega) (by omega) (fun c9_2 => absurd c9_2 (by omega)) (fun c9_2 => ?_)
  refine AR.run g_X4_leastOfSetting_12_2 16 [some (.int (nI (k)))] [.int (nI (k)), .ref 1] _ [] rfl trivial ?_
  refine AR.ald (n := 0) (e := k) ok_X4_leastOfSetting_16 (by first | rfl | (simp only [nI_add, pk_mul]; first | done | rfl)) rfl (by omega) (by first | decide | omega) ?_
  refine AR.run g_X4_leastOfSetting_17_1 21 [some (.int (nI (k)))] [.int (lsS k)] _ [] rfl trivial ?_
  exact AR.retI dc_X4_leastOfSetting_21 rfl rfl rfl
theorem g_X4_greatestOfSetting_0_1 : ab_oks M_X4_greatestOfSetting [(0, .iload_n 0, 1, 0, 0, 0, .null)] = true := by decide +kernel
theorem dc_X4_greatestOfSetting_1 : decode (AM.bytes M_X4_greatestOfSetting) 1 = .ok (.ifCond .lt 19, 3) := by decide +kernel
theorem g_X4_greatestOfSetting_4_3 : ab_oks M_X4_greatestOfSetting [(4, .iload_n 0, 1, 0, 0, 0, .null), (5, .getstatic 249, 3, 2, 1, 793, .null), (8, .arraylength, 1, 0, 0, 0, .null)] = true := by decide +kernel
theorem dc_X4_greatestOfSetting_9 : decode (AM.bytes M_X4_greatestOfSetting) 9 = .ok (.if_icmp .ge 11, 3) := by decide +kernel
theorem g_X4_greatestOfSetting_12_2 : ab_oks M_X4_greatestOfSetting [(12, .getstatic 249, 3, 2, 1, 793, .null), (15, .iload_n 0, 1, 0, 0, 0, .null)] = true := by decide +kernel
theorem ok_X4_greatestOfSetting_16 : ab_ok M_X4_greatestOfSetting (16, .iaload, 1, 0, 0, 0, .null) = true := by decide +kernel
theorem g_X4_greatestOfSetting_17_1 : ab_oks M_X4_greatestOfSetting [(17, .goto 4, 3, 21, 0, 0, .null)] = true := by decide +kernel
theorem dc_X4_greatestOfSetting_21 : decode (AM.bytes M_X4_greatestOfSetting) 21 = .ok (.ireturn, 1) := by decide +kernel
set_option maxRecDepth 100000 in
set_option maxHeartbeats 4000000 in
theorem s_4greatestOfSetting {E : AE} (d : Nat) (k : Nat)  {a0 t0 p0 m0 u0 l0 : List AC} {sx : Nat → Int32} {sl : Nat} (hk : k < 4) : CT E M_X4_greatestOfSetting d [.int (nI (k))] (hp (ol_ sx sl lsS gsS) a0 t0 p0 m0 u0 l0) (.inl (some (.int (gsS k)))) (hp (ol_ sx sl lsS gsS) a0 t0 p0 m0 u0 l0) 0 0 := by
  refine CT.of (L := [some (.int (nI (k)))]) rfl rfl ?_
  refine AR.run g_X4_greatestOfSetting_0_1 1 [some (.int (nI (k)))] [.int (nI (k))] _ [] rfl trivial ?_
  refine AR.ltN (tgt := 20) (a := k) dc_X4_greatestOfSetting_1 (by decide) (by first | rfl | (simp only [nI_add, pk_mul]; first | done | rfl)) (by omega) (fun c1_1 => absurd c1_1 (fun q => q)) (fun c1_1 => ?_)
  refine AR.run g_X4_greatestOfSetting_4_3 9 [some (.int (nI (k)))] [.int (nI (4)), .int (nI (k))] _ [] rfl trivial ?_
  refine AR.ge2N (tgt := 20) (a := k) (b := 4) dc_X4_greatestOfSetting_9 (by decide) (by first | rfl | (simp only [nI_add, pk_mul]; first | done | rfl)) (by first | rfl | (simp only [nI_add, pk_mul]; first | done | rfl)) (by omega) (by omega) (fun c9_2 => absurd c9_2 (by omega)) (fun c9_2 => ?_)
  refine AR.run g_X4_greatestOfSetting_12_2 16 [some (.int (nI (k)))] [.int (nI (k)), .ref 2] _ [] rfl trivial ?_
  refine AR.ald (n := 0) (e := k) ok_X4_greatestOfSetting_16 (by first | rfl | (simp only [nI_add, pk_mul]; first | done | rfl)) rfl (by omega) (by first | decide | omega) ?_
  refine AR.run g_X4_greatestOfSetting_17_1 21 [some (.int (nI (k)))] [.int (gsS k)] _ [] rfl trivial ?_
  exact AR.retI dc_X4_greatestOfSetting_21 rfl rfl rfl
theorem g_X4_set_0_2 : ab_oks M_X4_set [(0, .iload_n 1, 1, 1, 0, 0, .null), (1, .iconst 4, 1, 0, 0, 0, .int (nI (4)))] = true := by decide +kernel
theorem dc_X4_set_2 : decode (AM.bytes M_X4_set) 2 = .ok (.invokestatic 64, 3) := by decide +kernel
set_option maxRecDepth 100000 in
set_option maxHeartbeats 4000000 in
theorem s_4setA {E : AE} (d : Nat) (x : Int32) (v : Int32) {nv : Nat} {nc : Nat} {nr : Nat} {ne : Nat}  {o0 m0 u0 l0 : List AC} {T K : Nat → Nat → Int32} {os sc : Int32} {tc tp : Nat → Int32} {tl_ tn trd tv tdg tf tla : Int32} {pg ph pc : Nat → Int32} {pm : Int32} (hT : TI T nv nc nr ne) (hbad : ¬ ∃ q9 : Nat, q9 < 4 ∧ x = nI q9) (hex : E.ex = false) : CT E M_X4_set (d + 3) [.ref 4096, .int (x), .int (v)] (hp o0 (ar T K os sc) (te_ tc tp tl_ tn trd tv tdg tf tla) (pl pg ph pc pm) m0 u0 l0) (.inr "java/lang/IndexOutOfBoundsException") (hp o0 (ar T K os sc) (te_ tc tp tl_ tn trd tv tdg tf tla) (pl pg ph pc pm) m0 u0 l0) 1 6 := by
  obtain ⟨⟨hnv, h12⟩, ⟨hnc, h4⟩, ⟨hnr, h3⟩, ⟨hne, h60⟩, hLT, hHT⟩ := id hT
  refine CT.of (L := [some (.ref 4096), some (.int (x)), some (.int (v))]) rfl rfl ?_
  refine AR.run g_X4_set_0_2 2 [some (.ref 4096), some (.int (x)), some (.int (v))] [.int (nI (4)), .int (x)] _ [] rfl trivial ?_
  exact AR.end' rfl rfl (AR.room (by omega) (by omega) (AR.callSx [.int (x), .int (nI (4))] [] lk_4_64 dc_X4_set_2 (s_4requireIndexB _ x 4 (by assumption) (by omega) (by assumption)) (by first | rfl | (simp only [nI_add, pk_mul]; first | done | rfl)) rfl rfl))
theorem g_X4_set_5_2 : ab_oks M_X4_set [(5, .iload_n 2, 1, 2, 0, 0, .null), (6, .iload_n 1, 1, 1, 0, 0, .null)] = true := by decide +kernel
theorem lk_4_68 : ab_lkS "LeafCradles" 68 M_X4_leastOfSetting 1 [785, 786, 29, 787] = true := by decide +kernel
theorem dc_X4_set_7 : decode (AM.bytes M_X4_set) 7 = .ok (.invokestatic 68, 3) := by decide +kernel
theorem g_X4_set_10_1 : ab_oks M_X4_set [(10, .iload_n 1, 1, 1, 0, 0, .null)] = true := by decide +kernel
theorem lk_4_71 : ab_lkS "LeafCradles" 71 M_X4_greatestOfSetting 1 [790, 791, 29, 792] = true := by decide +kernel
theorem dc_X4_set_11 : decode (AM.bytes M_X4_set) 11 = .ok (.invokestatic 71, 3) := by decide +kernel
theorem dc_X4_set_14 : decode (AM.bytes M_X4_set) 14 = .ok (.invokestatic 30, 3) := by decide +kernel
set_option maxRecDepth 100000 in
set_option maxHeartbeats 4000000 in
theorem s_4setB {E : AE} (d : Nat) (k : Nat) (v : Int32) {nv : Nat} {nc : Nat} {nr : Nat} {ne : Nat}  {m0 u0 l0 : List AC} {sx : Nat → Int32} {sl : Nat} {T K : Nat → Nat → Int32} {os sc : Int32} {tc tp : Nat → Int32} {tl_ tn trd tv tdg tf tla : Int32} {pg ph pc : Nat → Int32} {pm : Int32} (hT : TI T nv nc nr ne) (hk : k < 4) (hx : wi v (lsS k) (gsS k) = 0) (hex : E.ex = false) : CT E M_X4_set (d + 3) [.ref 4096, .int (nI (k)), .int (v)] (hp (ol_ sx sl lsS gsS) (ar T K os sc) (te_ tc tp tl_ tn trd tv tdg tf tla) (pl pg ph pc pm) m0 u0 l0) (.inr "java/lang/IllegalArgumentException") (hp (ol_ sx sl lsS gsS) (ar T K os sc) (te_ tc tp tl_ tn trd tv tdg tf tla) (pl pg ph pc pm) m0 u0 l0) 1 6 := by
  obtain ⟨⟨hnv, h12⟩, ⟨hnc, h4⟩, ⟨hnr, h3⟩, ⟨hne, h60⟩, hLT, hHT⟩ := id hT
  refine CT.of (L := [some (.ref 4096), some (.int (nI (k))), some (.int (v))]) rfl rfl ?_
  refine AR.run g_X4_set_0_2 2 [some (.ref 4096), some (.int (nI (k))), some (.int (v))] [.int (nI (4)), .int (nI (k))] _ [] rfl trivial ?_
  refine AR.callS0 [.int (nI (k)), .int (nI (4))] [] lk_4_64 dc_X4_set_2 (s_4requireIndexO _ k 4 (by omega) (by omega)) (by first | rfl | (simp only [nI_add, pk_mul]; first | done | rfl)) rfl ?_
  refine AR.run g_X4_set_5_2 7 [some (.ref 4096), some (.int (nI (k))), some (.int (v))] [.int (nI (k)), .int (v)] _ [] rfl trivial ?_
  refine AR.callS1 [.int (nI (k))] [.int (v)] lk_4_68 dc_X4_set_7 (s_4leastOfSetting _ k (by omega)) (by first | rfl | (simp only [nI_add, pk_mul]; first | done | rfl)) rfl ?_
  refine AR.run g_X4_set_10_1 11 [some (.ref 4096), some (.int (nI (k))), some (.int (v))] [.int (nI (k)), .int (lsS k), .int (v)] _ [] rfl trivial ?_
  refine AR.callS1 [.int (nI (k))] [.int (lsS k), .int (v)] lk_4_71 dc_X4_set_11 (s_4greatestOfSetting _ k (by omega)) (by first | rfl | (simp only [nI_add, pk_mul]; first | done | rfl)) rfl ?_
  exact AR.end' rfl rfl (AR.room (by omega) (by omega) (AR.callSx [.int (v), .int (lsS k), .int (gsS k)] [] lk_4_30 dc_X4_set_14 (s_4requireRangeB _ v (lsS k) (gsS k) (by assumption) (by assumption)) (by first | rfl | (simp only [nI_add, pk_mul]; first | done | rfl)) rfl rfl))
def F_4set (k : Nat) (T : Nat → Nat → Int32) : Int32 := (F_0replaceNumber (7 + k) T)
def F_4set_T (k : Nat) (v : Int32) (T : Nat → Nat → Int32) : Nat → Nat → Int32 := (F_0replaceNumber_T (7 + k) v T)
def F_4set_K (a : Nat) (b : Nat) (T : Nat → Nat → Int32) (K : Nat → Nat → Int32) : Nat → Nat → Int32 := (F_0save_K a b T K)
def F_4set_os (a : Nat) (b : Nat) (os : Int32) : Int32 := (F_0save_os a b os)
def F_4set_sc (b : Nat) (sc : Int32) : Int32 := (F_0save_sc b sc)
theorem g_X4_set_17_2 : ab_oks M_X4_set [(17, .aload_n 0, 1, 0, 0, 0, .null), (18, .getfield 10, 3, 4, 0, 171, .null)] = true := by decide +kernel
theorem dc_X4_set_21 : decode (AM.bytes M_X4_set) 21 = .ok (.invokevirtual 45, 3) := by decide +kernel
theorem g_X4_set_24_6 : ab_oks M_X4_set [(24, .aload_n 0, 1, 0, 0, 0, .null), (25, .getfield 10, 3, 4, 0, 171, .null), (28, .bipush 7, 2, 0, 0, 0, .int (nI (7))), (30, .iload_n 1, 1, 1, 0, 0, .null), (31, .iadd, 1, 0, 0, 0, .null), (32, .iload_n 2, 1, 2, 0, 0, .null)] = true := by decide +kernel
theorem lk_4_74 : ab_lkV "LeafCradles" 74 M_X0_replaceNumber 2 [777, 778, 779, 30, 780] = true := by decide +kernel
theorem dc_X4_set_33 : decode (AM.bytes M_X4_set) 33 = .ok (.invokevirtual 74, 3) := by decide +kernel
theorem dc_X4_set_36 : decode (AM.bytes M_X4_set) 36 = .ok (.ireturn, 1) := by decide +kernel
set_option maxRecDepth 100000 in
set_option maxHeartbeats 4000000 in
theorem s_4set {E : AE} (d : Nat) (k : Nat) (v : Int32) {nv : Nat} {nc : Nat} {nr : Nat} {ne : Nat} {a : Nat} {b : Nat}  {m0 u0 l0 : List AC} {sx : Nat → Int32} {sl : Nat} {T K : Nat → Nat → Int32} {os sc : Int32} {tc tp : Nat → Int32} {tl_ tn trd tv tdg tf tla : Int32} {pg ph pc : Nat → Int32} {pm : Int32} (hT : TI T nv nc nr ne) (hos : os = nI a) (ha : a < 6) (hsc : sc = nI b) (hb : b ≤ 6) (hk : k < 4) (ho0 : ¬ wi v (lsS k) (gsS k) = 0) : CT E M_X4_set (d + 3) [.ref 4096, .int (nI (k)), .int (v)] (hp (ol_ sx sl lsS gsS) (ar T K os sc) (te_ tc tp tl_ tn trd tv tdg tf tla) (pl pg ph pc pm) m0 u0 l0) (.inl (some (.int (F_4set k T)))) (hp (ol_ sx sl lsS gsS) (ar (F_4set_T k v T) (F_4set_K a b T K) (F_4set_os a b os) (F_4set_sc b sc)) (te_ tc tp tl_ tn trd tv tdg tf tla) (pl pg ph pc pm) m0 u0 l0) 0 0 := by
  obtain ⟨⟨hnv, h12⟩, ⟨hnc, h4⟩, ⟨hnr, h3⟩, ⟨hne, h60⟩, hLT, hHT⟩ := id hT
  refine CT.of (L := [some (.ref 4096), some (.int (nI (k))), some (.int (v))]) rfl rfl ?_
  refine AR.run g_X4_set_0_2 2 [some (.ref 4096), some (.int (nI (k))), some (.int (v))] [.int (nI (4)), .int (nI (k))] _ [] rfl trivial ?_
  refine AR.callS0 [.int (nI (k)), .int (nI (4))] [] lk_4_64 dc_X4_set_2 (s_4requireIndexO _ k 4 (by omega) (by omega)) (by first | rfl | (simp only [nI_add, pk_mul]; first | done | rfl)) rfl ?_
  refine AR.run g_X4_set_5_2 7 [some (.ref 4096), some (.int (nI (k))), some (.int (v))] [.int (nI (k)), .int (v)] _ [] rfl trivial ?_
  refine AR.callS1 [.int (nI (k))] [.int (v)] lk_4_68 dc_X4_set_7 (s_4leastOfSetting _ k (by omega)) (by first | rfl | (simp only [nI_add, pk_mul]; first | done | rfl)) rfl ?_
  refine AR.run g_X4_set_10_1 11 [some (.ref 4096), some (.int (nI (k))), some (.int (v))] [.int (nI (k)), .int (lsS k), .int (v)] _ [] rfl trivial ?_
  refine AR.callS1 [.int (nI (k))] [.int (lsS k), .int (v)] lk_4_71 dc_X4_set_11 (s_4greatestOfSetting _ k (by omega)) (by first | rfl | (simp only [nI_add, pk_mul]; first | done | rfl)) rfl ?_
  refine AR.callS0 [.int (v), .int (lsS k), .int (gsS k)] [] lk_4_30 dc_X4_set_14 (s_4requireRangeO _ v (lsS k) (gsS k) (by assumption)) (by first | rfl | (simp only [nI_add, pk_mul]; first | done | rfl)) rfl ?_
  refine AR.run g_X4_set_17_2 21 [some (.ref 4096), some (.int (nI (k))), some (.int (v))] [.ref 4097] _ [] rfl trivial ?_
  refine AR.callV0 (4097) [] [] lk_4_45 dc_X4_set_21 rfl rfl (s_0save _  (by assumption) (by omega) (by assumption) (by omega)) (by first | rfl | (simp only [nI_add, pk_mul]; first | done | rfl)) rfl ?_
  refine AR.run g_X4_set_24_6 33 [some (.ref 4096), some (.int (nI (k))), some (.int (v))] [.int (v), .int ((nI (7)) + (nI (k))), .ref 4097] _ [] rfl trivial ?_
  refine AR.callV1 (4097) [.int (nI ((7 + k))), .int (v)] [] lk_4_74 dc_X4_set_33 rfl rfl (s_0replaceNumber _ (7 + k) v (by omega)) (by first | rfl | (simp only [nI_add, pk_mul]; first | done | rfl)) rfl ?_
  have e1_0 : F_4set k T = (F_0replaceNumber (7 + k) T) := by rw [F_4set]
  have e1_1 : F_4set_T k v T = (F_0replaceNumber_T (7 + k) v T) := by rw [F_4set_T]
  have e1_2 : F_4set_K a b T K = (F_0save_K a b T K) := by rw [F_4set_K]
  have e1_3 : F_4set_os a b os = (F_0save_os a b os) := by rw [F_4set_os]
  have e1_4 : F_4set_sc b sc = (F_0save_sc b sc) := by rw [F_4set_sc]
  exact AR.retI dc_X4_set_36 rfl e1_0.symm (by rw [e1_1, e1_2, e1_3, e1_4])
theorem g_X4_setYear_0_3 : ab_oks M_X4_setYear [(0, .iload_n 1, 1, 1, 0, 0, .null), (1, .sipush 1800, 3, 0, 0, 0, .int (nI (1800))), (4, .sipush 2199, 3, 0, 0, 0, .int (nI (2199)))] = true := by decide +kernel
theorem dc_X4_setYear_7 : decode (AM.bytes M_X4_setYear) 7 = .ok (.invokestatic 30, 3) := by decide +kernel
set_option maxRecDepth 100000 in
set_option maxHeartbeats 4000000 in
theorem s_4setYearA {E : AE} (d : Nat) (y : Int32) {nv : Nat} {nc : Nat} {nr : Nat} {ne : Nat}  {o0 m0 u0 l0 : List AC} {T K : Nat → Nat → Int32} {os sc : Int32} {tc tp : Nat → Int32} {tl_ tn trd tv tdg tf tla : Int32} {pg ph pc : Nat → Int32} {pm : Int32} (hT : TI T nv nc nr ne) (hx : wi y (nI 1800) (nI 2199) = 0) (hex : E.ex = false) : CT E M_X4_setYear (d + 3) [.ref 4096, .int (y)] (hp o0 (ar T K os sc) (te_ tc tp tl_ tn trd tv tdg tf tla) (pl pg ph pc pm) m0 u0 l0) (.inr "java/lang/IllegalArgumentException") (hp o0 (ar T K os sc) (te_ tc tp tl_ tn trd tv tdg tf tla) (pl pg ph pc pm) m0 u0 l0) 1 6 := by
  obtain ⟨⟨hnv, h12⟩, ⟨hnc, h4⟩, ⟨hnr, h3⟩, ⟨hne, h60⟩, hLT, hHT⟩ := id hT
  refine CT.of (L := [some (.ref 4096), some (.int (y))]) rfl rfl ?_
  refine AR.run g_X4_setYear_0_3 7 [some (.ref 4096), some (.int (y))] [.int (nI (2199)), .int (nI (1800)), .int (y)] _ [] rfl trivial ?_
  exact AR.end' rfl rfl (AR.room (by omega) (by omega) (AR.callSx [.int (y), .int (nI (1800)), .int (nI (2199))] [] lk_4_30 dc_X4_setYear_7 (s_4requireRangeB _ y (nI (1800)) (nI (2199)) (by assumption) (by assumption)) (by first | rfl | (simp only [nI_add, pk_mul]; first | done | rfl)) rfl rfl))
def F_4setYear (T : Nat → Nat → Int32) : Int32 := (F_0replaceNumber 4 T)
def F_4setYear_T (y : Int32) (T : Nat → Nat → Int32) : Nat → Nat → Int32 := (F_0replaceNumber_T 4 y T)
def F_4setYear_K (a : Nat) (b : Nat) (T : Nat → Nat → Int32) (K : Nat → Nat → Int32) : Nat → Nat → Int32 := (F_0save_K a b T K)
def F_4setYear_os (a : Nat) (b : Nat) (os : Int32) : Int32 := (F_0save_os a b os)
def F_4setYear_sc (b : Nat) (sc : Int32) : Int32 := (F_0save_sc b sc)
theorem g_X4_setYear_10_2 : ab_oks M_X4_setYear [(10, .aload_n 0, 1, 0, 0, 0, .null), (11, .getfield 10, 3, 4, 0, 171, .null)] = true := by decide +kernel
theorem dc_X4_setYear_14 : decode (AM.bytes M_X4_setYear) 14 = .ok (.invokevirtual 45, 3) := by decide +kernel
theorem g_X4_setYear_17_4 : ab_oks M_X4_setYear [(17, .aload_n 0, 1, 0, 0, 0, .null), (18, .getfield 10, 3, 4, 0, 171, .null), (21, .iconst 4, 1, 0, 0, 0, .int (nI (4))), (22, .iload_n 1, 1, 1, 0, 0, .null)] = true := by decide +kernel
theorem dc_X4_setYear_23 : decode (AM.bytes M_X4_setYear) 23 = .ok (.invokevirtual 74, 3) := by decide +kernel
theorem dc_X4_setYear_26 : decode (AM.bytes M_X4_setYear) 26 = .ok (.ireturn, 1) := by decide +kernel
set_option maxRecDepth 100000 in
set_option maxHeartbeats 4000000 in
theorem s_4setYear {E : AE} (d : Nat) (y : Int32) {nv : Nat} {nc : Nat} {nr : Nat} {ne : Nat} {a : Nat} {b : Nat}  {o0 m0 u0 l0 : List AC} {T K : Nat → Nat → Int32} {os sc : Int32} {tc tp : Nat → Int32} {tl_ tn trd tv tdg tf tla : Int32} {pg ph pc : Nat → Int32} {pm : Int32} (hT : TI T nv nc nr ne) (hos : os = nI a) (ha : a < 6) (hsc : sc = nI b) (hb : b ≤ 6) (ho0 : ¬ wi y (nI 1800) (nI 2199) = 0) : CT E M_X4_setYear (d + 3) [.ref 4096, .int (y)] (hp o0 (ar T K os sc) (te_ tc tp tl_ tn trd tv tdg tf tla) (pl pg ph pc pm) m0 u0 l0) (.inl (some (.int (F_4setYear T)))) (hp o0 (ar (F_4setYear_T y T) (F_4setYear_K a b T K) (F_4setYear_os a b os) (F_4setYear_sc b sc)) (te_ tc tp tl_ tn trd tv tdg tf tla) (pl pg ph pc pm) m0 u0 l0) 0 0 := by
  obtain ⟨⟨hnv, h12⟩, ⟨hnc, h4⟩, ⟨hnr, h3⟩, ⟨hne, h60⟩, hLT, hHT⟩ := id hT
  refine CT.of (L := [some (.ref 4096), some (.int (y))]) rfl rfl ?_
  refine AR.run g_X4_setYear_0_3 7 [some (.ref 4096), some (.int (y))] [.int (nI (2199)), .int (nI (1800)), .int (y)] _ [] rfl trivial ?_
  refine AR.callS0 [.int (y), .int (nI (1800)), .int (nI (2199))] [] lk_4_30 dc_X4_setYear_7 (s_4requireRangeO _ y (nI (1800)) (nI (2199)) (by assumption)) (by first | rfl | (simp only [nI_add, pk_mul]; first | done | rfl)) rfl ?_
  refine AR.run g_X4_setYear_10_2 14 [some (.ref 4096), some (.int (y))] [.ref 4097] _ [] rfl trivial ?_
  refine AR.callV0 (4097) [] [] lk_4_45 dc_X4_setYear_14 rfl rfl (s_0save _  (by assumption) (by omega) (by assumption) (by omega)) (by first | rfl | (simp only [nI_add, pk_mul]; first | done | rfl)) rfl ?_
  refine AR.run g_X4_setYear_17_4 23 [some (.ref 4096), some (.int (y))] [.int (y), .int (nI (4)), .ref 4097] _ [] rfl trivial ?_
  refine AR.callV1 (4097) [.int (nI (4)), .int (y)] [] lk_4_74 dc_X4_setYear_23 rfl rfl (s_0replaceNumber _ 4 y (by omega)) (by first | rfl | (simp only [nI_add, pk_mul]; first | done | rfl)) rfl ?_
  have e1_0 : F_4setYear T = (F_0replaceNumber 4 T) := by rw [F_4setYear]
  have e1_1 : F_4setYear_T y T = (F_0replaceNumber_T 4 y T) := by rw [F_4setYear_T]
  have e1_2 : F_4setYear_K a b T K = (F_0save_K a b T K) := by rw [F_4setYear_K]
  have e1_3 : F_4setYear_os a b os = (F_0save_os a b os) := by rw [F_4setYear_os]
  have e1_4 : F_4setYear_sc b sc = (F_0save_sc b sc) := by rw [F_4setYear_sc]
  exact AR.retI dc_X4_setYear_26 rfl e1_0.symm (by rw [e1_1, e1_2, e1_3, e1_4])
theorem g_X4_bring_0_2 : ab_oks M_X4_bring [(0, .aload_n 0, 1, 0, 0, 0, .null), (1, .iload_n 1, 1, 1, 0, 0, .null)] = true := by decide +kernel
theorem lk_4_77 : ab_lkV "LeafCradles" 77 M_X4_requireVolume 1 [321, 323, 8, 29, 324] = true := by decide +kernel
theorem dc_X4_bring_2 : decode (AM.bytes M_X4_bring) 2 = .ok (.invokevirtual 77, 3) := by decide +kernel
set_option maxRecDepth 100000 in
set_option maxHeartbeats 4000000 in
theorem s_4bringA {E : AE} (d : Nat) (x : Int32) (y : Int32) (w : Int32) {nv : Nat} {nc : Nat} {nr : Nat} {ne : Nat}  {o0 m0 u0 l0 : List AC} {T K : Nat → Nat → Int32} {os sc : Int32} {tc tp : Nat → Int32} {tl_ tn trd tv tdg tf tla : Int32} {pg ph pc : Nat → Int32} {pm : Int32} (hT : TI T nv nc nr ne) (hbad : ¬ ∃ q9 : Nat, q9 < nv ∧ x = nI q9) (hex : E.ex = false) : CT E M_X4_bring (d + 5) [.ref 4096, .int (x), .int (y), .int (w)] (hp o0 (ar T K os sc) (te_ tc tp tl_ tn trd tv tdg tf tla) (pl pg ph pc pm) m0 u0 l0) (.inr "java/lang/IndexOutOfBoundsException") (hp o0 (ar T K os sc) (te_ tc tp tl_ tn trd tv tdg tf tla) (pl pg ph pc pm) m0 u0 l0) 1 6 := by
  obtain ⟨⟨hnv, h12⟩, ⟨hnc, h4⟩, ⟨hnr, h3⟩, ⟨hne, h60⟩, hLT, hHT⟩ := id hT
  refine CT.of (L := [some (.ref 4096), some (.int (x)), some (.int (y)), some (.int (w))]) rfl rfl ?_
  refine AR.run g_X4_bring_0_2 2 [some (.ref 4096), some (.int (x)), some (.int (y)), some (.int (w))] [.int (x), .ref 4096] _ [] rfl trivial ?_
  exact AR.end' rfl rfl (AR.room (by omega) (by omega) (AR.callVx (4096) [.int (x)] [] lk_4_77 dc_X4_bring_2 rfl rfl (s_4requireVolumeB _ x (by assumption) (by omega) (by assumption)) (by first | rfl | (simp only [nI_add, pk_mul]; first | done | rfl)) rfl rfl))
theorem g_X4_bring_5_2 : ab_oks M_X4_bring [(5, .aload_n 0, 1, 0, 0, 0, .null), (6, .iload_n 2, 1, 2, 0, 0, .null)] = true := by decide +kernel
theorem lk_4_81 : ab_lkV "LeafCradles" 81 M_X4_requireCradle 1 [380, 382, 9, 29, 383] = true := by decide +kernel
theorem dc_X4_bring_7 : decode (AM.bytes M_X4_bring) 7 = .ok (.invokevirtual 81, 3) := by decide +kernel
set_option maxRecDepth 100000 in
set_option maxHeartbeats 4000000 in
theorem s_4bringB {E : AE} (d : Nat) (v : Nat) (x : Int32) (w : Int32) {nv : Nat} {nc : Nat} {nr : Nat} {ne : Nat}  {o0 m0 u0 l0 : List AC} {T K : Nat → Nat → Int32} {os sc : Int32} {tc tp : Nat → Int32} {tl_ tn trd tv tdg tf tla : Int32} {pg ph pc : Nat → Int32} {pm : Int32} (hT : TI T nv nc nr ne) (hv : v < nv) (hbad : ¬ ∃ q9 : Nat, q9 < nc ∧ x = nI q9) (hex : E.ex = false) : CT E M_X4_bring (d + 5) [.ref 4096, .int (nI (v)), .int (x), .int (w)] (hp o0 (ar T K os sc) (te_ tc tp tl_ tn trd tv tdg tf tla) (pl pg ph pc pm) m0 u0 l0) (.inr "java/lang/IndexOutOfBoundsException") (hp o0 (ar T K os sc) (te_ tc tp tl_ tn trd tv tdg tf tla) (pl pg ph pc pm) m0 u0 l0) 1 6 := by
  obtain ⟨⟨hnv, h12⟩, ⟨hnc, h4⟩, ⟨hnr, h3⟩, ⟨hne, h60⟩, hLT, hHT⟩ := id hT
  refine CT.of (L := [some (.ref 4096), some (.int (nI (v))), some (.int (x)), some (.int (w))]) rfl rfl ?_
  refine AR.run g_X4_bring_0_2 2 [some (.ref 4096), some (.int (nI (v))), some (.int (x)), some (.int (w))] [.int (nI (v)), .ref 4096] _ [] rfl trivial ?_
  refine AR.callV0 (4096) [.int (nI (v))] [] lk_4_77 dc_X4_bring_2 rfl rfl (s_4requireVolumeO _ v (by assumption) (by omega)) (by first | rfl | (simp only [nI_add, pk_mul]; first | done | rfl)) rfl ?_
  refine AR.run g_X4_bring_5_2 7 [some (.ref 4096), some (.int (nI (v))), some (.int (x)), some (.int (w))] [.int (x), .ref 4096] _ [] rfl trivial ?_
  exact AR.end' rfl rfl (AR.room (by omega) (by omega) (AR.callVx (4096) [.int (x)] [] lk_4_81 dc_X4_bring_7 rfl rfl (s_4requireCradleB _ x (by assumption) (by omega) (by assumption)) (by first | rfl | (simp only [nI_add, pk_mul]; first | done | rfl)) rfl rfl))
theorem g_X4_bring_10_2 : ab_oks M_X4_bring [(10, .aload_n 0, 1, 0, 0, 0, .null), (11, .iload_n 3, 1, 3, 0, 0, .null)] = true := by decide +kernel
theorem lk_4_84 : ab_lkV "LeafCradles" 84 M_X4_requireCarrier 1 [403, 405, 11, 29, 406] = true := by decide +kernel
theorem dc_X4_bring_12 : decode (AM.bytes M_X4_bring) 12 = .ok (.invokevirtual 84, 3) := by decide +kernel
set_option maxRecDepth 100000 in
set_option maxHeartbeats 4000000 in
theorem s_4bringC {E : AE} (d : Nat) (v : Nat) (c : Nat) (x : Int32) {nv : Nat} {nc : Nat} {nr : Nat} {ne : Nat}  {o0 m0 u0 l0 : List AC} {T K : Nat → Nat → Int32} {os sc : Int32} {tc tp : Nat → Int32} {tl_ tn trd tv tdg tf tla : Int32} {pg ph pc : Nat → Int32} {pm : Int32} (hT : TI T nv nc nr ne) (hv : v < nv) (hc : c < nc) (hbad : ¬ ∃ q9 : Nat, q9 < nr ∧ x = nI q9) (hex : E.ex = false) : CT E M_X4_bring (d + 5) [.ref 4096, .int (nI (v)), .int (nI (c)), .int (x)] (hp o0 (ar T K os sc) (te_ tc tp tl_ tn trd tv tdg tf tla) (pl pg ph pc pm) m0 u0 l0) (.inr "java/lang/IndexOutOfBoundsException") (hp o0 (ar T K os sc) (te_ tc tp tl_ tn trd tv tdg tf tla) (pl pg ph pc pm) m0 u0 l0) 1 6 := by
  obtain ⟨⟨hnv, h12⟩, ⟨hnc, h4⟩, ⟨hnr, h3⟩, ⟨hne, h60⟩, hLT, hHT⟩ := id hT
  refine CT.of (L := [some (.ref 4096), some (.int (nI (v))), some (.int (nI (c))), some (.int (x))]) rfl rfl ?_
  refine AR.run g_X4_bring_0_2 2 [some (.ref 4096), some (.int (nI (v))), some (.int (nI (c))), some (.int (x))] [.int (nI (v)), .ref 4096] _ [] rfl trivial ?_
  refine AR.callV0 (4096) [.int (nI (v))] [] lk_4_77 dc_X4_bring_2 rfl rfl (s_4requireVolumeO _ v (by assumption) (by omega)) (by first | rfl | (simp only [nI_add, pk_mul]; first | done | rfl)) rfl ?_
  refine AR.run g_X4_bring_5_2 7 [some (.ref 4096), some (.int (nI (v))), some (.int (nI (c))), some (.int (x))] [.int (nI (c)), .ref 4096] _ [] rfl trivial ?_
  refine AR.callV0 (4096) [.int (nI (c))] [] lk_4_81 dc_X4_bring_7 rfl rfl (s_4requireCradleO _ c (by assumption) (by omega)) (by first | rfl | (simp only [nI_add, pk_mul]; first | done | rfl)) rfl ?_
  refine AR.run g_X4_bring_10_2 12 [some (.ref 4096), some (.int (nI (v))), some (.int (nI (c))), some (.int (x))] [.int (x), .ref 4096] _ [] rfl trivial ?_
  exact AR.end' rfl rfl (AR.room (by omega) (by omega) (AR.callVx (4096) [.int (x)] [] lk_4_84 dc_X4_bring_12 rfl rfl (s_4requireCarrierB _ x (by assumption) (by omega) (by assumption)) (by first | rfl | (simp only [nI_add, pk_mul]; first | done | rfl)) rfl rfl))
theorem g_X4_whyNot_0_2 : ab_oks M_X4_whyNot [(0, .aload_n 0, 1, 0, 0, 0, .null), (1, .iload_n 1, 1, 1, 0, 0, .null)] = true := by decide +kernel
theorem dc_X4_whyNot_2 : decode (AM.bytes M_X4_whyNot) 2 = .ok (.invokevirtual 77, 3) := by decide +kernel
set_option maxRecDepth 100000 in
set_option maxHeartbeats 4000000 in
theorem s_4whyNotA {E : AE} (d : Nat) (x : Int32) (y : Int32) (w : Int32) {nv : Nat} {nc : Nat} {nr : Nat} {ne : Nat}  {o0 m0 u0 l0 : List AC} {T K : Nat → Nat → Int32} {os sc : Int32} {tc tp : Nat → Int32} {tl_ tn trd tv tdg tf tla : Int32} {pg ph pc : Nat → Int32} {pm : Int32} (hT : TI T nv nc nr ne) (hbad : ¬ ∃ q9 : Nat, q9 < nv ∧ x = nI q9) (hex : E.ex = false) : CT E M_X4_whyNot (d + 3) [.ref 4096, .int (x), .int (y), .int (w)] (hp o0 (ar T K os sc) (te_ tc tp tl_ tn trd tv tdg tf tla) (pl pg ph pc pm) m0 u0 l0) (.inr "java/lang/IndexOutOfBoundsException") (hp o0 (ar T K os sc) (te_ tc tp tl_ tn trd tv tdg tf tla) (pl pg ph pc pm) m0 u0 l0) 1 6 := by
  obtain ⟨⟨hnv, h12⟩, ⟨hnc, h4⟩, ⟨hnr, h3⟩, ⟨hne, h60⟩, hLT, hHT⟩ := id hT
  refine CT.of (L := [some (.ref 4096), some (.int (x)), some (.int (y)), some (.int (w))]) rfl rfl ?_
  refine AR.run g_X4_whyNot_0_2 2 [some (.ref 4096), some (.int (x)), some (.int (y)), some (.int (w))] [.int (x), .ref 4096] _ [] rfl trivial ?_
  exact AR.end' rfl rfl (AR.room (by omega) (by omega) (AR.callVx (4096) [.int (x)] [] lk_4_77 dc_X4_whyNot_2 rfl rfl (s_4requireVolumeB _ x (by assumption) (by omega) (by assumption)) (by first | rfl | (simp only [nI_add, pk_mul]; first | done | rfl)) rfl rfl))
theorem g_X4_whyNot_5_2 : ab_oks M_X4_whyNot [(5, .aload_n 0, 1, 0, 0, 0, .null), (6, .iload_n 2, 1, 2, 0, 0, .null)] = true := by decide +kernel
theorem dc_X4_whyNot_7 : decode (AM.bytes M_X4_whyNot) 7 = .ok (.invokevirtual 81, 3) := by decide +kernel
set_option maxRecDepth 100000 in
set_option maxHeartbeats 4000000 in
theorem s_4whyNotB {E : AE} (d : Nat) (v : Nat) (x : Int32) (w : Int32) {nv : Nat} {nc : Nat} {nr : Nat} {ne : Nat}  {o0 m0 u0 l0 : List AC} {T K : Nat → Nat → Int32} {os sc : Int32} {tc tp : Nat → Int32} {tl_ tn trd tv tdg tf tla : Int32} {pg ph pc : Nat → Int32} {pm : Int32} (hT : TI T nv nc nr ne) (hv : v < nv) (hbad : ¬ ∃ q9 : Nat, q9 < nc ∧ x = nI q9) (hex : E.ex = false) : CT E M_X4_whyNot (d + 3) [.ref 4096, .int (nI (v)), .int (x), .int (w)] (hp o0 (ar T K os sc) (te_ tc tp tl_ tn trd tv tdg tf tla) (pl pg ph pc pm) m0 u0 l0) (.inr "java/lang/IndexOutOfBoundsException") (hp o0 (ar T K os sc) (te_ tc tp tl_ tn trd tv tdg tf tla) (pl pg ph pc pm) m0 u0 l0) 1 6 := by
  obtain ⟨⟨hnv, h12⟩, ⟨hnc, h4⟩, ⟨hnr, h3⟩, ⟨hne, h60⟩, hLT, hHT⟩ := id hT
  refine CT.of (L := [some (.ref 4096), some (.int (nI (v))), some (.int (x)), some (.int (w))]) rfl rfl ?_
  refine AR.run g_X4_whyNot_0_2 2 [some (.ref 4096), some (.int (nI (v))), some (.int (x)), some (.int (w))] [.int (nI (v)), .ref 4096] _ [] rfl trivial ?_
  refine AR.callV0 (4096) [.int (nI (v))] [] lk_4_77 dc_X4_whyNot_2 rfl rfl (s_4requireVolumeO _ v (by assumption) (by omega)) (by first | rfl | (simp only [nI_add, pk_mul]; first | done | rfl)) rfl ?_
  refine AR.run g_X4_whyNot_5_2 7 [some (.ref 4096), some (.int (nI (v))), some (.int (x)), some (.int (w))] [.int (x), .ref 4096] _ [] rfl trivial ?_
  exact AR.end' rfl rfl (AR.room (by omega) (by omega) (AR.callVx (4096) [.int (x)] [] lk_4_81 dc_X4_whyNot_7 rfl rfl (s_4requireCradleB _ x (by assumption) (by omega) (by assumption)) (by first | rfl | (simp only [nI_add, pk_mul]; first | done | rfl)) rfl rfl))
theorem g_X4_whyNot_10_2 : ab_oks M_X4_whyNot [(10, .aload_n 0, 1, 0, 0, 0, .null), (11, .iload_n 3, 1, 3, 0, 0, .null)] = true := by decide +kernel
theorem dc_X4_whyNot_12 : decode (AM.bytes M_X4_whyNot) 12 = .ok (.invokevirtual 84, 3) := by decide +kernel
set_option maxRecDepth 100000 in
set_option maxHeartbeats 4000000 in
theorem s_4whyNotC {E : AE} (d : Nat) (v : Nat) (c : Nat) (x : Int32) {nv : Nat} {nc : Nat} {nr : Nat} {ne : Nat}  {o0 m0 u0 l0 : List AC} {T K : Nat → Nat → Int32} {os sc : Int32} {tc tp : Nat → Int32} {tl_ tn trd tv tdg tf tla : Int32} {pg ph pc : Nat → Int32} {pm : Int32} (hT : TI T nv nc nr ne) (hv : v < nv) (hc : c < nc) (hbad : ¬ ∃ q9 : Nat, q9 < nr ∧ x = nI q9) (hex : E.ex = false) : CT E M_X4_whyNot (d + 3) [.ref 4096, .int (nI (v)), .int (nI (c)), .int (x)] (hp o0 (ar T K os sc) (te_ tc tp tl_ tn trd tv tdg tf tla) (pl pg ph pc pm) m0 u0 l0) (.inr "java/lang/IndexOutOfBoundsException") (hp o0 (ar T K os sc) (te_ tc tp tl_ tn trd tv tdg tf tla) (pl pg ph pc pm) m0 u0 l0) 1 6 := by
  obtain ⟨⟨hnv, h12⟩, ⟨hnc, h4⟩, ⟨hnr, h3⟩, ⟨hne, h60⟩, hLT, hHT⟩ := id hT
  refine CT.of (L := [some (.ref 4096), some (.int (nI (v))), some (.int (nI (c))), some (.int (x))]) rfl rfl ?_
  refine AR.run g_X4_whyNot_0_2 2 [some (.ref 4096), some (.int (nI (v))), some (.int (nI (c))), some (.int (x))] [.int (nI (v)), .ref 4096] _ [] rfl trivial ?_
  refine AR.callV0 (4096) [.int (nI (v))] [] lk_4_77 dc_X4_whyNot_2 rfl rfl (s_4requireVolumeO _ v (by assumption) (by omega)) (by first | rfl | (simp only [nI_add, pk_mul]; first | done | rfl)) rfl ?_
  refine AR.run g_X4_whyNot_5_2 7 [some (.ref 4096), some (.int (nI (v))), some (.int (nI (c))), some (.int (x))] [.int (nI (c)), .ref 4096] _ [] rfl trivial ?_
  refine AR.callV0 (4096) [.int (nI (c))] [] lk_4_81 dc_X4_whyNot_7 rfl rfl (s_4requireCradleO _ c (by assumption) (by omega)) (by first | rfl | (simp only [nI_add, pk_mul]; first | done | rfl)) rfl ?_
  refine AR.run g_X4_whyNot_10_2 12 [some (.ref 4096), some (.int (nI (v))), some (.int (nI (c))), some (.int (x))] [.int (x), .ref 4096] _ [] rfl trivial ?_
  exact AR.end' rfl rfl (AR.room (by omega) (by omega) (AR.callVx (4096) [.int (x)] [] lk_4_84 dc_X4_whyNot_12 rfl rfl (s_4requireCarrierB _ x (by assumption) (by omega) (by assumption)) (by first | rfl | (simp only [nI_add, pk_mul]; first | done | rfl)) rfl rfl))
