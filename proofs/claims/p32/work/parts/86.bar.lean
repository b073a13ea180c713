theorem g_X4_bar_0_2 : ab_oks M_X4_bar [(0, .aload_n 0, 1, 0, 0, 0, .null), (1, .iload_n 1, 1, 1, 0, 0, .null)] = true := by decide +kernel
theorem dc_X4_bar_2 : decode (AM.bytes M_X4_bar) 2 = .ok (.invokevirtual 77, 3) := by decide +kernel
set_option maxRecDepth 100000 in
set_option maxHeartbeats 4000000 in
theorem s_4barA {E : AE} (d : Nat) (x : Int32) {nv : Nat} {nc : Nat} {nr : Nat} {ne : Nat}  {o0 m0 u0 l0 : List AC} {T K : Nat → Nat → Int32} {os sc : Int32} {tc tp : Nat → Int32} {tl_ tn trd tv tdg tf tla : Int32} {pg ph pc : Nat → Int32} {pm : Int32} (hT : TI T nv nc nr ne) (hbad : ¬ ∃ q9 : Nat, q9 < nv ∧ x = nI q9) (hex : E.ex = false) : CT E M_X4_bar (d + 5) [.ref 4096, .int (x)] (hp o0 (ar T K os sc) (te_ tc tp tl_ tn trd tv tdg tf tla) (pl pg ph pc pm) m0 u0 l0) (.inr "java/lang/IndexOutOfBoundsException") (hp o0 (ar T K os sc) (te_ tc tp tl_ tn trd tv tdg tf tla) (pl pg ph pc pm) m0 u0 l0) 1 6 := by
  obtain ⟨⟨hnv, h12⟩, ⟨hnc, h4⟩, ⟨hnr, h3⟩, ⟨hne, h60⟩, hLT, hHT⟩ := id hT
  refine CT.of (L := [some (.ref 4096), some (.int (x)), none, none, none]) rfl rfl ?_
  refine AR.run g_X4_bar_0_2 2 [some (.ref 4096), some (.int (x)), none, none, none] [.int (x), .ref 4096] _ [] rfl trivial ?_
  exact AR.end' rfl rfl (AR.room (by omega) (by omega) (AR.callVx (4096) [.int (x)] [] lk_4_77 dc_X4_bar_2 rfl rfl (s_4requireVolumeB _ x (by assumption) (by omega) (by assumption)) (by first | rfl | (simp only [nI_add, pk_mul]; first | done | rfl)) rfl rfl))
def F_4barB_tp (q : Nat) (tc : Nat → Int32) (tp : Nat → Int32) (tf : Int32) (tla : Int32) : Nat → Int32 := (F_1read_tp q tc tp tf tla)
def F_4barB_tn (q : Nat) (tc : Nat → Int32) (tp : Nat → Int32) (tf : Int32) (tla : Int32) : Int32 := (F_1read_tn q tc tp tf tla)
def F_4barB_trd (q : Nat) (tc : Nat → Int32) (tp : Nat → Int32) (tf : Int32) (tla : Int32) : Int32 := (F_1read_trd q tc tp tf tla)
def F_4barB_tv (q : Nat) (tc : Nat → Int32) (tp : Nat → Int32) (tf : Int32) (tla : Int32) : Int32 := (F_1read_tv q tc tp tf tla)
def F_4barB_tdg (q : Nat) (tc : Nat → Int32) (tp : Nat → Int32) (tf : Int32) (tla : Int32) : Int32 := (F_1read_tdg q tc tp tf tla)
def F_4barB_tf (q : Nat) (tc : Nat → Int32) (tp : Nat → Int32) (tf : Int32) (tla : Int32) : Int32 := (F_1read_tf q tc tp tf tla)
def F_4barB_tla (q : Nat) (tc : Nat → Int32) (tp : Nat → Int32) (tf : Int32) (tla : Int32) : Int32 := (F_1read_tla q tc tp tf tla)
theorem g_X4_bar_5_2 : ab_oks M_X4_bar [(5, .aload_n 0, 1, 0, 0, 0, .null), (6, .getfield 19, 3, 4, 1, 172, .null)] = true := by decide +kernel
theorem lk_4_132 : ab_lkV "LeafCradles" 132 M_X1_read 0 [696, 697, 698, 33, 699] = true := by decide +kernel
theorem dc_X4_bar_9 : decode (AM.bytes M_X4_bar) 9 = .ok (.invokevirtual 132, 3) := by decide +kernel
theorem g_X4_bar_12_2 : ab_oks M_X4_bar [(12, .aload_n 0, 1, 0, 0, 0, .null), (13, .getfield 19, 3, 4, 1, 172, .null)] = true := by decide +kernel
theorem dc_X4_bar_16 : decode (AM.bytes M_X4_bar) 16 = .ok (.invokevirtual 121, 3) := by decide +kernel
theorem dc_X4_bar_19 : decode (AM.bytes M_X4_bar) 19 = .ok (.if_icmp .lt 13, 3) := by decide +kernel
theorem dc_X4_bar_32 : decode (AM.bytes M_X4_bar) 32 = .ok (.new 139, 3) := by decide +kernel
theorem dc_X4_bar_35 : decode (AM.bytes M_X4_bar) 35 = .ok (.dup, 1) := by decide +kernel
theorem dc_X4_bar_36 : decode (AM.bytes M_X4_bar) 36 = .ok (.ldc 141, 2) := by decide +kernel
theorem dc_X4_bar_38 : decode (AM.bytes M_X4_bar) 38 = .ok (.invokespecial 143, 3) := by decide +kernel
theorem dc_X4_bar_41 : decode (AM.bytes M_X4_bar) 41 = .ok (.athrow, 1) := by decide +kernel
set_option maxRecDepth 100000 in
set_option maxHeartbeats 4000000 in
theorem s_4barB {E : AE} (d : Nat) (v : Nat) {nv : Nat} {nc : Nat} {nr : Nat} {ne : Nat} {q : Nat}  {o0 m0 u0 l0 : List AC} {T K : Nat → Nat → Int32} {os sc : Int32} {tc tp : Nat → Int32} {tl_ tn trd tv tdg tf tla : Int32} {pg ph pc : Nat → Int32} {pm : Int32} (hT : TI T nv nc nr ne) (hv : v < nv) (hln : tl_ = nI q) (hq : q ≤ 60) (hcd : ∀ k, k < q → isN (tc k) ∧ (tc k).toNatClampNeg < 127) (hlt : F_1read q tc tp tf tla < nI q) (hex : E.ex = false) : CT E M_X4_bar (d + 5) [.ref 4096, .int (nI (v))] (hp o0 (ar T K os sc) (te_ tc tp tl_ tn trd tv tdg tf tla) (pl pg ph pc pm) m0 u0 l0) (.inr "java/lang/IllegalArgumentException") (hp o0 (ar T K os sc) (te_ tc (F_4barB_tp q tc tp tf tla) tl_ (F_4barB_tn q tc tp tf tla) (F_4barB_trd q tc tp tf tla) (F_4barB_tv q tc tp tf tla) (F_4barB_tdg q tc tp tf tla) (F_4barB_tf q tc tp tf tla) (F_4barB_tla q tc tp tf tla)) (pl pg ph pc pm) m0 u0 l0) 1 6 := by
  obtain ⟨⟨hnv, h12⟩, ⟨hnc, h4⟩, ⟨hnr, h3⟩, ⟨hne, h60⟩, hLT, hHT⟩ := id hT
  refine CT.of (L := [some (.ref 4096), some (.int (nI (v))), none, none, none]) rfl rfl ?_
  refine AR.run g_X4_bar_0_2 2 [some (.ref 4096), some (.int (nI (v))), none, none, none] [.int (nI (v)), .ref 4096] _ [] rfl trivial ?_
  refine AR.callV0 (4096) [.int (nI (v))] [] lk_4_77 dc_X4_bar_2 rfl rfl (s_4requireVolumeO _ v (by assumption) (by omega)) (by first | rfl | (simp only [nI_add, pk_mul]; first | done | rfl)) rfl ?_
  refine AR.run g_X4_bar_5_2 9 [some (.ref 4096), some (.int (nI (v))), none, none, none] [.ref 8192] _ [] rfl trivial ?_
  refine AR.callV1 (8192) [] [] lk_4_132 dc_X4_bar_9 rfl rfl (s_1read _  (by assumption) (by omega) (by assumption)) (by first | rfl | (simp only [nI_add, pk_mul]; first | done | rfl)) rfl ?_
  refine AR.run g_X4_bar_12_2 16 [some (.ref 4096), some (.int (nI (v))), none, none, none] [.ref 8192, .int (F_1read q tc tp tf tla)] _ [] rfl trivial ?_
  refine AR.callV1 (8192) [] [.int (F_1read q tc tp tf tla)] lk_4_121 dc_X4_bar_16 rfl rfl (s_1length _  ) (by first | rfl | (simp only [nI_add, pk_mul]; first | done | rfl)) rfl ?_
  refine AR.top hln ?_
  refine AR.lt2 (tgt := 32) dc_X4_bar_19 (by decide) (fun c19_1 => ?_) (fun c19_1 => absurd c19_1 (fun q9 => q9 hlt))
  exact AR.room (by omega) (by omega) (AR.throwS (text := "the buffer is not a complete list of bars") (by assumption) rfl rfl ab_thrOk_143 th_139_143a th_139_143b (by simp [ab_strs]) dc_X4_bar_32 dc_X4_bar_35 dc_X4_bar_36 dc_X4_bar_38 dc_X4_bar_41 rfl)
def F_4barC_tp (q : Nat) (tc : Nat → Int32) (tp : Nat → Int32) (tf : Int32) (tla : Int32) : Nat → Int32 := (F_1read_tp q tc tp tf tla)
def F_4barC_tn (q : Nat) (tc : Nat → Int32) (tp : Nat → Int32) (tf : Int32) (tla : Int32) : Int32 := (F_1read_tn q tc tp tf tla)
def F_4barC_trd (q : Nat) (tc : Nat → Int32) (tp : Nat → Int32) (tf : Int32) (tla : Int32) : Int32 := (F_1read_trd q tc tp tf tla)
def F_4barC_tv (q : Nat) (tc : Nat → Int32) (tp : Nat → Int32) (tf : Int32) (tla : Int32) : Int32 := (F_1read_tv q tc tp tf tla)
def F_4barC_tdg (q : Nat) (tc : Nat → Int32) (tp : Nat → Int32) (tf : Int32) (tla : Int32) : Int32 := (F_1read_tdg q tc tp tf tla)
def F_4barC_tf (q : Nat) (tc : Nat → Int32) (tp : Nat → Int32) (tf : Int32) (tla : Int32) : Int32 := (F_1read_tf q tc tp tf tla)
def F_4barC_tla (q : Nat) (tc : Nat → Int32) (tp : Nat → Int32) (tf : Int32) (tla : Int32) : Int32 := (F_1read_tla q tc tp tf tla)
theorem g_X4_bar_22_2 : ab_oks M_X4_bar [(22, .aload_n 0, 1, 0, 0, 0, .null), (23, .getfield 19, 3, 4, 1, 172, .null)] = true := by decide +kernel
theorem lk_4_135 : ab_lkV "LeafCradles" 135 M_X1_isComplete 0 [748, 729, 730, 33, 731] = true := by decide +kernel
theorem dc_X4_bar_26 : decode (AM.bytes M_X4_bar) 26 = .ok (.invokevirtual 135, 3) := by decide +kernel
theorem dc_X4_bar_29 : decode (AM.bytes M_X4_bar) 29 = .ok (.ifCond .ne 13, 3) := by decide +kernel
set_option maxRecDepth 100000 in
set_option maxHeartbeats 4000000 in
theorem s_4barC {E : AE} (d : Nat) (v : Nat) {nv : Nat} {nc : Nat} {nr : Nat} {ne : Nat} {q : Nat}  {o0 m0 u0 l0 : List AC} {T K : Nat → Nat → Int32} {os sc : Int32} {tc tp : Nat → Int32} {tl_ tn trd tv tdg tf tla : Int32} {pg ph pc : Nat → Int32} {pm : Int32} (hT : TI T nv nc nr ne) (hv : v < nv) (hln : tl_ = nI q) (hq : q ≤ 60) (hcd : ∀ k, k < q → isN (tc k) ∧ (tc k).toNatClampNeg < 127) (hnl : ¬ F_1read q tc tp tf tla < nI q) (hcm : F_1isComplete (F_1read_trd q tc tp tf tla) (F_1read_tdg q tc tp tf tla) = 0) (hex : E.ex = false) : CT E M_X4_bar (d + 5) [.ref 4096, .int (nI (v))] (hp o0 (ar T K os sc) (te_ tc tp tl_ tn trd tv tdg tf tla) (pl pg ph pc pm) m0 u0 l0) (.inr "java/lang/IllegalArgumentException") (hp o0 (ar T K os sc) (te_ tc (F_4barC_tp q tc tp tf tla) tl_ (F_4barC_tn q tc tp tf tla) (F_4barC_trd q tc tp tf tla) (F_4barC_tv q tc tp tf tla) (F_4barC_tdg q tc tp tf tla) (F_4barC_tf q tc tp tf tla) (F_4barC_tla q tc tp tf tla)) (pl pg ph pc pm) m0 u0 l0) 1 6 := by
  obtain ⟨⟨hnv, h12⟩, ⟨hnc, h4⟩, ⟨hnr, h3⟩, ⟨hne, h60⟩, hLT, hHT⟩ := id hT
  refine CT.of (L := [some (.ref 4096), some (.int (nI (v))), none, none, none]) rfl rfl ?_
  refine AR.run g_X4_bar_0_2 2 [some (.ref 4096), some (.int (nI (v))), none, none, none] [.int (nI (v)), .ref 4096] _ [] rfl trivial ?_
  refine AR.callV0 (4096) [.int (nI (v))] [] lk_4_77 dc_X4_bar_2 rfl rfl (s_4requireVolumeO _ v (by assumption) (by omega)) (by first | rfl | (simp only [nI_add, pk_mul]; first | done | rfl)) rfl ?_
  refine AR.run g_X4_bar_5_2 9 [some (.ref 4096), some (.int (nI (v))), none, none, none] [.ref 8192] _ [] rfl trivial ?_
  refine AR.callV1 (8192) [] [] lk_4_132 dc_X4_bar_9 rfl rfl (s_1read _  (by assumption) (by omega) (by assumption)) (by first | rfl | (simp only [nI_add, pk_mul]; first | done | rfl)) rfl ?_
  refine AR.run g_X4_bar_12_2 16 [some (.ref 4096), some (.int (nI (v))), none, none, none] [.ref 8192, .int (F_1read q tc tp tf tla)] _ [] rfl trivial ?_
  refine AR.callV1 (8192) [] [.int (F_1read q tc tp tf tla)] lk_4_121 dc_X4_bar_16 rfl rfl (s_1length _  ) (by first | rfl | (simp only [nI_add, pk_mul]; first | done | rfl)) rfl ?_
  refine AR.top hln ?_
  refine AR.lt2 (tgt := 32) dc_X4_bar_19 (by decide) (fun c19_1 => absurd c19_1 hnl) (fun c19_1 => ?_)
  refine AR.run g_X4_bar_22_2 26 [some (.ref 4096), some (.int (nI (v))), none, none, none] [.ref 8192] _ [] rfl trivial ?_
  refine AR.callV1 (8192) [] [] lk_4_135 dc_X4_bar_26 rfl rfl (s_1isComplete _  ) (by first | rfl | (simp only [nI_add, pk_mul]; first | done | rfl)) rfl ?_
  refine AR.ne (tgt := 42) dc_X4_bar_29 (by decide) (fun c29_2 => absurd c29_2 (fun q9 => q9 hcm)) (fun c29_2 => ?_)
  exact AR.room (by omega) (by omega) (AR.throwS (text := "the buffer is not a complete list of bars") (by assumption) rfl rfl ab_thrOk_143 th_139_143a th_139_143b (by simp [ab_strs]) dc_X4_bar_32 dc_X4_bar_35 dc_X4_bar_36 dc_X4_bar_38 dc_X4_bar_41 rfl)
def F_4barE_tp (q : Nat) (tc : Nat → Int32) (tp : Nat → Int32) (tf : Int32) (tla : Int32) : Nat → Int32 := (F_1read_tp q tc tp tf tla)
def F_4barE_tn (q : Nat) (tc : Nat → Int32) (tp : Nat → Int32) (tf : Int32) (tla : Int32) : Int32 := (F_1read_tn q tc tp tf tla)
def F_4barE_trd (q : Nat) (tc : Nat → Int32) (tp : Nat → Int32) (tf : Int32) (tla : Int32) : Int32 := (F_1read_trd q tc tp tf tla)
def F_4barE_tv (q : Nat) (tc : Nat → Int32) (tp : Nat → Int32) (tf : Int32) (tla : Int32) : Int32 := (F_1read_tv q tc tp tf tla)
def F_4barE_tdg (q : Nat) (tc : Nat → Int32) (tp : Nat → Int32) (tf : Int32) (tla : Int32) : Int32 := (F_1read_tdg q tc tp tf tla)
def F_4barE_tf (q : Nat) (tc : Nat → Int32) (tp : Nat → Int32) (tf : Int32) (tla : Int32) : Int32 := (F_1read_tf q tc tp tf tla)
def F_4barE_tla (q : Nat) (tc : Nat → Int32) (tp : Nat → Int32) (tf : Int32) (tla : Int32) : Int32 := (F_1read_tla q tc tp tf tla)
theorem g_X4_bar_42_2 : ab_oks M_X4_bar [(42, .aload_n 0, 1, 0, 0, 0, .null), (43, .getfield 19, 3, 4, 1, 172, .null)] = true := by decide +kernel
theorem lk_4_144 : ab_lkV "LeafCradles" 144 M_X1_greatestLeaf 0 [750, 751, 752, 33, 753] = true := by decide +kernel
theorem dc_X4_bar_46 : decode (AM.bytes M_X4_bar) 46 = .ok (.invokevirtual 144, 3) := by decide +kernel
theorem g_X4_bar_49_4 : ab_oks M_X4_bar [(49, .aload_n 0, 1, 0, 0, 0, .null), (50, .getfield 10, 3, 4, 0, 171, .null), (53, .iload_n 1, 1, 1, 0, 0, .null), (54, .iconst 2, 1, 0, 0, 0, .int (nI (2)))] = true := by decide +kernel
theorem dc_X4_bar_55 : decode (AM.bytes M_X4_bar) 55 = .ok (.invokevirtual 110, 3) := by decide +kernel
theorem dc_X4_bar_58 : decode (AM.bytes M_X4_bar) 58 = .ok (.if_icmp .lt 13, 3) := by decide +kernel
theorem dc_X4_bar_61 : decode (AM.bytes M_X4_bar) 61 = .ok (.new 38, 3) := by decide +kernel
theorem dc_X4_bar_64 : decode (AM.bytes M_X4_bar) 64 = .ok (.dup, 1) := by decide +kernel
theorem dc_X4_bar_65 : decode (AM.bytes M_X4_bar) 65 = .ok (.ldc 147, 2) := by decide +kernel
theorem dc_X4_bar_67 : decode (AM.bytes M_X4_bar) 67 = .ok (.invokespecial 42, 3) := by decide +kernel
theorem dc_X4_bar_70 : decode (AM.bytes M_X4_bar) 70 = .ok (.athrow, 1) := by decide +kernel
set_option maxRecDepth 100000 in
set_option maxHeartbeats 4000000 in
theorem s_4barE {E : AE} (d : Nat) (v : Nat) {nv : Nat} {nc : Nat} {nr : Nat} {ne : Nat} {q : Nat} {p : Nat}  {o0 m0 u0 l0 : List AC} {T K : Nat → Nat → Int32} {os sc : Int32} {tc tp : Nat → Int32} {tl_ tn trd tv tdg tf tla : Int32} {pg ph pc : Nat → Int32} {pm : Int32} (hT : TI T nv nc nr ne) (hv : v < nv) (hln : tl_ = nI q) (hq : q ≤ 60) (hcd : ∀ k, k < q → isN (tc k) ∧ (tc k).toNatClampNeg < 127) (hnl : ¬ F_1read q tc tp tf tla < nI q) (hcm : ¬ F_1isComplete (F_1read_trd q tc tp tf tla) (F_1read_tdg q tc tp tf tla) = 0) (htn : F_1read_tn q tc tp tf tla = nI p) (hp10 : p ≤ 10) (hgr : ¬ L_1greatestLeaf_4 (F_1read_tp q tc tp tf tla) p < nI (lt T v)) (hex : E.ex = false) : CT E M_X4_bar (d + 5) [.ref 4096, .int (nI (v))] (hp o0 (ar T K os sc) (te_ tc tp tl_ tn trd tv tdg tf tla) (pl pg ph pc pm) m0 u0 l0) (.inr "java/lang/IllegalStateException") (hp o0 (ar T K os sc) (te_ tc (F_4barE_tp q tc tp tf tla) tl_ (F_4barE_tn q tc tp tf tla) (F_4barE_trd q tc tp tf tla) (F_4barE_tv q tc tp tf tla) (F_4barE_tdg q tc tp tf tla) (F_4barE_tf q tc tp tf tla) (F_4barE_tla q tc tp tf tla)) (pl pg ph pc pm) m0 u0 l0) 1 6 := by
  obtain ⟨⟨hnv, h12⟩, ⟨hnc, h4⟩, ⟨hnr, h3⟩, ⟨hne, h60⟩, hLT, hHT⟩ := id hT
  have ht40 := (hLT v (by omega)).2
  refine CT.of (L := [some (.ref 4096), some (.int (nI (v))), none, none, none]) rfl rfl ?_
  refine AR.run g_X4_bar_0_2 2 [some (.ref 4096), some (.int (nI (v))), none, none, none] [.int (nI (v)), .ref 4096] _ [] rfl trivial ?_
  refine AR.callV0 (4096) [.int (nI (v))] [] lk_4_77 dc_X4_bar_2 rfl rfl (s_4requireVolumeO _ v (by assumption) (by omega)) (by first | rfl | (simp only [nI_add, pk_mul]; first | done | rfl)) rfl ?_
  refine AR.run g_X4_bar_5_2 9 [some (.ref 4096), some (.int (nI (v))), none, none, none] [.ref 8192] _ [] rfl trivial ?_
  refine AR.callV1 (8192) [] [] lk_4_132 dc_X4_bar_9 rfl rfl (s_1read _  (by assumption) (by omega) (by assumption)) (by first | rfl | (simp only [nI_add, pk_mul]; first | done | rfl)) rfl ?_
  refine AR.run g_X4_bar_12_2 16 [some (.ref 4096), some (.int (nI (v))), none, none, none] [.ref 8192, .int (F_1read q tc tp tf tla)] _ [] rfl trivial ?_
  refine AR.callV1 (8192) [] [.int (F_1read q tc tp tf tla)] lk_4_121 dc_X4_bar_16 rfl rfl (s_1length _  ) (by first | rfl | (simp only [nI_add, pk_mul]; first | done | rfl)) rfl ?_
  refine AR.top hln ?_
  refine AR.lt2 (tgt := 32) dc_X4_bar_19 (by decide) (fun c19_1 => absurd c19_1 hnl) (fun c19_1 => ?_)
  refine AR.run g_X4_bar_22_2 26 [some (.ref 4096), some (.int (nI (v))), none, none, none] [.ref 8192] _ [] rfl trivial ?_
  refine AR.callV1 (8192) [] [] lk_4_135 dc_X4_bar_26 rfl rfl (s_1isComplete _  ) (by first | rfl | (simp only [nI_add, pk_mul]; first | done | rfl)) rfl ?_
  refine AR.ne (tgt := 42) dc_X4_bar_29 (by decide) (fun c29_2 => ?_) (fun c29_2 => absurd c29_2 hcm)
  refine AR.run g_X4_bar_42_2 46 [some (.ref 4096), some (.int (nI (v))), none, none, none] [.ref 8192] _ [] rfl trivial ?_
  refine AR.callV1 (8192) [] [] lk_4_144 dc_X4_bar_46 rfl rfl (s_1greatestLeaf _  (by assumption) (by omega)) (by first | rfl | (simp only [nI_add, pk_mul]; first | done | rfl)) rfl ?_
  refine AR.run g_X4_bar_49_4 55 [some (.ref 4096), some (.int (nI (v))), none, none, none] [.int (nI (2)), .int (nI (v)), .ref 4097, .int (L_1greatestLeaf_4 (F_1read_tp q tc tp tf tla) p)] _ [] rfl trivial ?_
  refine AR.callV1 (4097) [.int (nI (v)), .int (nI (2))] [.int (L_1greatestLeaf_4 (F_1read_tp q tc tp tf tla) p)] lk_4_110 dc_X4_bar_55 rfl rfl (s_0volumeFact _ v 2 (by omega) (by first | assumption | exact (hLT v (by omega)).1) (by first | assumption | exact (hLT v (by omega)).2) (by omega)) (by first | rfl | (simp only [nI_add, pk_mul]; first | done | rfl)) rfl ?_
  refine AR.top (vf2 (hLT v (by omega))) ?_
  refine AR.lt2 (tgt := 71) dc_X4_bar_58 (by decide) (fun c58_3 => absurd c58_3 hgr) (fun c58_3 => ?_)
  exact AR.room (by omega) (by omega) (AR.throwS (text := "the volume does not have all of these leaves") (by assumption) rfl rfl ab_thrOk_42 th_38_42a th_38_42b (by simp [ab_strs]) dc_X4_bar_61 dc_X4_bar_64 dc_X4_bar_65 dc_X4_bar_67 dc_X4_bar_70 rfl)
def B_4bar_80 (v : Nat) (q : Nat) (A : Nat → Nat) (B : Nat → Nat) (tc : Nat → Int32) (tp : Nat → Int32) (tf : Int32) (tla : Int32) (j80 : Nat) (y80_ar0 : Nat → Nat → Int32) : (Nat → Nat → Int32) := (F_0barLeaves_T v (A j80) (B j80) ((F_1read_tp q tc tp tf tla) (j80 * 3 + 2)) y80_ar0)
def L_4bar_80 (v : Nat) (q : Nat) (A : Nat → Nat) (B : Nat → Nat) (T : Nat → Nat → Int32) (tc : Nat → Int32) (tp : Nat → Int32) (tf : Int32) (tla : Int32) : Nat → (Nat → Nat → Int32)
  | 0 => T
  | j + 1 => B_4bar_80 v q A B tc tp tf tla j (L_4bar_80 v q A B T tc tp tf tla  j)
theorem lp3_ne {v a : Nat} {y : Int32} {T : Nat → Nat → Int32} : ∀ (j t : Nat), t ≠ 1 → L_0barLeaves_3 v a y T j t = T t
  | 0, _, _ => rfl
  | j + 1, t, h => by
    show B_0barLeaves_3 v a y j (L_0barLeaves_3 v a y T j) t = _
    unfold B_0barLeaves_3
    rw [tu_ne h]
    exact lp3_ne j t h
theorem TI_bar {v q : Nat} {tc tp : Nat → Int32} {tf tla : Int32} {A B : Nat → Nat} {T : Nat → Nat → Int32} {nv nc nr ne : Nat} (hT : TI T nv nc nr ne) : ∀ j : Nat, TI (L_4bar_80 v q A B T tc tp tf tla j) nv nc nr ne
  | 0 => hT
  | j + 1 => by
    have ih := TI_bar (v := v) (q := q) (tc := tc) (tp := tp) (tf := tf) (tla := tla) (A := A) (B := B) hT j
    have e : ∀ t, t ≠ 1 → L_4bar_80 v q A B T tc tp tf tla (j + 1) t = L_4bar_80 v q A B T tc tp tf tla j t := fun t h => lp3_ne _ t h
    exact TI_of ih (by rw [e 5 (by decide)]) (by rw [e 5 (by decide)]) (by rw [e 5 (by decide)]) (by rw [e 5 (by decide)]) (fun v9 _ => by rw [e 0 (by decide)]) (fun c9 h9 => by rw [e 2 (by decide)]; exact ih.2.2.2.2.2 c9 h9)
def F_4bar (v : Nat) (q : Nat) (p : Nat) (A : Nat → Nat) (B : Nat → Nat) (T : Nat → Nat → Int32) (tc : Nat → Int32) (tp : Nat → Int32) (tf : Int32) (tla : Int32) : Int32 := (L_0barredLeaves_4 v (L_4bar_80 v q A B T tc tp tf tla p) (lt (L_4bar_80 v q A B T tc tp tf tla p) v))
def F_4bar_T (v : Nat) (q : Nat) (p : Nat) (A : Nat → Nat) (B : Nat → Nat) (T : Nat → Nat → Int32) (tc : Nat → Int32) (tp : Nat → Int32) (tf : Int32) (tla : Int32) : Nat → Nat → Int32 := (L_4bar_80 v q A B T tc tp tf tla p)
def F_4bar_K (a : Nat) (b : Nat) (T : Nat → Nat → Int32) (K : Nat → Nat → Int32) : Nat → Nat → Int32 := (F_0save_K a b T K)
def F_4bar_os (a : Nat) (b : Nat) (os : Int32) : Int32 := (F_0save_os a b os)
def F_4bar_sc (b : Nat) (sc : Int32) : Int32 := (F_0save_sc b sc)
def F_4bar_tp (q : Nat) (tc : Nat → Int32) (tp : Nat → Int32) (tf : Int32) (tla : Int32) : Nat → Int32 := (F_1read_tp q tc tp tf tla)
def F_4bar_tl_ : Int32 := F_1empty_tl_
def F_4bar_tn (q : Nat) (tc : Nat → Int32) (tp : Nat → Int32) (tf : Int32) (tla : Int32) : Int32 := (F_1read_tn q tc tp tf tla)
def F_4bar_trd (q : Nat) (tc : Nat → Int32) (tp : Nat → Int32) (tf : Int32) (tla : Int32) : Int32 := (F_1read_trd q tc tp tf tla)
def F_4bar_tv (q : Nat) (tc : Nat → Int32) (tp : Nat → Int32) (tf : Int32) (tla : Int32) : Int32 := (F_1read_tv q tc tp tf tla)
def F_4bar_tdg (q : Nat) (tc : Nat → Int32) (tp : Nat → Int32) (tf : Int32) (tla : Int32) : Int32 := (F_1read_tdg q tc tp tf tla)
def F_4bar_tf (q : Nat) (tc : Nat → Int32) (tp : Nat → Int32) (tf : Int32) (tla : Int32) : Int32 := (F_1read_tf q tc tp tf tla)
def F_4bar_tla (q : Nat) (tc : Nat → Int32) (tp : Nat → Int32) (tf : Int32) (tla : Int32) : Int32 := (F_1read_tla q tc tp tf tla)
theorem g_X4_bar_71_2 : ab_oks M_X4_bar [(71, .aload_n 0, 1, 0, 0, 0, .null), (72, .getfield 10, 3, 4, 0, 171, .null)] = true := by decide +kernel
theorem dc_X4_bar_75 : decode (AM.bytes M_X4_bar) 75 = .ok (.invokevirtual 45, 3) := by decide +kernel
theorem g_X4_bar_78_2 : ab_oks M_X4_bar [(78, .iconst 0, 1, 0, 0, 0, .int (nI (0))), (79, .istore_n 2, 1, 2, 0, 0, .null)] = true := by decide +kernel
theorem g_X4_bar_80_3 : ab_oks M_X4_bar [(80, .iload_n 2, 1, 2, 0, 0, .null), (81, .aload_n 0, 1, 0, 0, 0, .null), (82, .getfield 19, 3, 4, 1, 172, .null)] = true := by decide +kernel
theorem lk_4_149 : ab_lkV "LeafCradles" 149 M_X1_partCount 0 [757, 758, 759, 33, 760] = true := by decide +kernel
theorem dc_X4_bar_85 : decode (AM.bytes M_X4_bar) 85 = .ok (.invokevirtual 149, 3) := by decide +kernel
theorem dc_X4_bar_88 : decode (AM.bytes M_X4_bar) 88 = .ok (.if_icmp .ge 50, 3) := by decide +kernel
theorem g_X4_bar_91_4 : ab_oks M_X4_bar [(91, .aload_n 0, 1, 0, 0, 0, .null), (92, .getfield 19, 3, 4, 1, 172, .null), (95, .iload_n 2, 1, 2, 0, 0, .null), (96, .iconst 0, 1, 0, 0, 0, .int (nI (0)))] = true := by decide +kernel
theorem lk_4_152 : ab_lkV "LeafCradles" 152 M_X1_partFact 2 [761, 762, 763, 33, 764] = true := by decide +kernel
theorem dc_X4_bar_97 : decode (AM.bytes M_X4_bar) 97 = .ok (.invokevirtual 152, 3) := by decide +kernel
theorem g_X4_bar_100_5 : ab_oks M_X4_bar [(100, .istore_n 3, 1, 3, 0, 0, .null), (101, .aload_n 0, 1, 0, 0, 0, .null), (102, .getfield 19, 3, 4, 1, 172, .null), (105, .iload_n 2, 1, 2, 0, 0, .null), (106, .iconst 1, 1, 0, 0, 0, .int (nI (1)))] = true := by decide +kernel
theorem dc_X4_bar_107 : decode (AM.bytes M_X4_bar) 107 = .ok (.invokevirtual 152, 3) := by decide +kernel
theorem g_X4_bar_110_10 : ab_oks M_X4_bar [(110, .istore 4, 2, 4, 0, 0, .null), (112, .aload_n 0, 1, 0, 0, 0, .null), (113, .getfield 10, 3, 4, 0, 171, .null), (116, .iload_n 1, 1, 1, 0, 0, .null), (117, .iload_n 3, 1, 3, 0, 0, .null), (118, .iload 4, 2, 4, 0, 0, .null), (120, .aload_n 0, 1, 0, 0, 0, .null), (121, .getfield 19, 3, 4, 1, 172, .null), (124, .iload_n 2, 1, 2, 0, 0, .null), (125, .iconst 2, 1, 0, 0, 0, .int (nI (2)))] = true := by decide +kernel
theorem dc_X4_bar_126 : decode (AM.bytes M_X4_bar) 126 = .ok (.invokevirtual 152, 3) := by decide +kernel
theorem lk_4_155 : ab_lkV "LeafCradles" 155 M_X0_barLeaves 4 [765, 766, 767, 30, 768] = true := by decide +kernel
theorem dc_X4_bar_129 : decode (AM.bytes M_X4_bar) 129 = .ok (.invokevirtual 155, 3) := by decide +kernel
theorem g_X4_bar_132_2 : ab_oks M_X4_bar [(132, .iinc 2 1, 3, 2, 0, 0, .int (nI (1))), (135, .goto (-55), 3, 80, 0, 0, .null)] = true := by decide +kernel
theorem g_X4_bar_138_2 : ab_oks M_X4_bar [(138, .aload_n 0, 1, 0, 0, 0, .null), (139, .getfield 19, 3, 4, 1, 172, .null)] = true := by decide +kernel
theorem dc_X4_bar_142 : decode (AM.bytes M_X4_bar) 142 = .ok (.invokevirtual 129, 3) := by decide +kernel
theorem g_X4_bar_145_4 : ab_oks M_X4_bar [(145, .pop, 1, 0, 0, 0, .null), (146, .aload_n 0, 1, 0, 0, 0, .null), (147, .getfield 10, 3, 4, 0, 171, .null), (150, .iload_n 1, 1, 1, 0, 0, .null)] = true := by decide +kernel
theorem lk_4_159 : ab_lkV "LeafCradles" 159 M_X0_barredLeaves 1 [769, 770, 771, 30, 772] = true := by decide +kernel
theorem dc_X4_bar_151 : decode (AM.bytes M_X4_bar) 151 = .ok (.invokevirtual 159, 3) := by decide +kernel
theorem dc_X4_bar_154 : decode (AM.bytes M_X4_bar) 154 = .ok (.ireturn, 1) := by decide +kernel
set_option maxRecDepth 100000 in
set_option maxHeartbeats 4000000 in
theorem s_4bar {E : AE} (d : Nat) (v : Nat) {nv : Nat} {nc : Nat} {nr : Nat} {ne : Nat} {a : Nat} {b : Nat} {q : Nat} {p : Nat} {A : Nat → Nat} {B : Nat → Nat}  {o0 m0 u0 l0 : List AC} {T K : Nat → Nat → Int32} {os sc : Int32} {tc tp : Nat → Int32} {tl_ tn trd tv tdg tf tla : Int32} {pg ph pc : Nat → Int32} {pm : Int32} (hT : TI T nv nc nr ne) (hos : os = nI a) (ha : a < 6) (hsc : sc = nI b) (hb : b ≤ 6) (hv : v < nv) (hln : tl_ = nI q) (hq : q ≤ 60) (hcd : ∀ k, k < q → isN (tc k) ∧ (tc k).toNatClampNeg < 127) (hnl : ¬ F_1read q tc tp tf tla < nI q) (hcm : ¬ F_1isComplete (F_1read_trd q tc tp tf tla) (F_1read_tdg q tc tp tf tla) = 0) (htn : F_1read_tn q tc tp tf tla = nI p) (hp10 : p ≤ 10) (hgr : L_1greatestLeaf_4 (F_1read_tp q tc tp tf tla) p < nI (lt T v)) (hA : ∀ k, k < p → (F_1read_tp q tc tp tf tla) (k * 3 + 0) = nI (A k)) (hB : ∀ k, k < p → (F_1read_tp q tc tp tf tla) (k * 3 + 1) = nI (B k)) (hAB : ∀ k, k < p → A k ≤ B k ∧ B k < 40) : CT E M_X4_bar (d + 5) [.ref 4096, .int (nI (v))] (hp o0 (ar T K os sc) (te_ tc tp tl_ tn trd tv tdg tf tla) (pl pg ph pc pm) m0 u0 l0) (.inl (some (.int (F_4bar v q p A B T tc tp tf tla)))) (hp o0 (ar (F_4bar_T v q p A B T tc tp tf tla) (F_4bar_K a b T K) (F_4bar_os a b os) (F_4bar_sc b sc)) (te_ tc (F_4bar_tp q tc tp tf tla) F_4bar_tl_ (F_4bar_tn q tc tp tf tla) (F_4bar_trd q tc tp tf tla) (F_4bar_tv q tc tp tf tla) (F_4bar_tdg q tc tp tf tla) (F_4bar_tf q tc tp tf tla) (F_4bar_tla q tc tp tf tla)) (pl pg ph pc pm) m0 u0 l0) 0 0 := by
  obtain ⟨⟨hnv, h12⟩, ⟨hnc, h4⟩, ⟨hnr, h3⟩, ⟨hne, h60⟩, hLT, hHT⟩ := id hT
  have ht40 := (hLT v (by omega)).2
  refine CT.of (L := [some (.ref 4096), some (.int (nI (v))), none, none, none]) rfl rfl ?_
  refine AR.run g_X4_bar_0_2 2 [some (.ref 4096), some (.int (nI (v))), none, none, none] [.int (nI (v)), .ref 4096] _ [] rfl trivial ?_
  refine AR.callV0 (4096) [.int (nI (v))] [] lk_4_77 dc_X4_bar_2 rfl rfl (s_4requireVolumeO _ v (by assumption) (by omega)) (by first | rfl | (simp only [nI_add, pk_mul]; first | done | rfl)) rfl ?_
  refine AR.run g_X4_bar_5_2 9 [some (.ref 4096), some (.int (nI (v))), none, none, none] [.ref 8192] _ [] rfl trivial ?_
  refine AR.callV1 (8192) [] [] lk_4_132 dc_X4_bar_9 rfl rfl (s_1read _  (by assumption) (by omega) (by assumption)) (by first | rfl | (simp only [nI_add, pk_mul]; first | done | rfl)) rfl ?_
  refine AR.run g_X4_bar_12_2 16 [some (.ref 4096), some (.int (nI (v))), none, none, none] [.ref 8192, .int (F_1read q tc tp tf tla)] _ [] rfl trivial ?_
  refine AR.callV1 (8192) [] [.int (F_1read q tc tp tf tla)] lk_4_121 dc_X4_bar_16 rfl rfl (s_1length _  ) (by first | rfl | (simp only [nI_add, pk_mul]; first | done | rfl)) rfl ?_
  refine AR.top hln ?_
  refine AR.lt2 (tgt := 32) dc_X4_bar_19 (by decide) (fun c19_1 => absurd c19_1 hnl) (fun c19_1 => ?_)
  refine AR.run g_X4_bar_22_2 26 [some (.ref 4096), some (.int (nI (v))), none, none, none] [.ref 8192] _ [] rfl trivial ?_
  refine AR.callV1 (8192) [] [] lk_4_135 dc_X4_bar_26 rfl rfl (s_1isComplete _  ) (by first | rfl | (simp only [nI_add, pk_mul]; first | done | rfl)) rfl ?_
  refine AR.ne (tgt := 42) dc_X4_bar_29 (by decide) (fun c29_2 => ?_) (fun c29_2 => absurd c29_2 hcm)
  refine AR.run g_X4_bar_42_2 46 [some (.ref 4096), some (.int (nI (v))), none, none, none] [.ref 8192] _ [] rfl trivial ?_
  refine AR.callV1 (8192) [] [] lk_4_144 dc_X4_bar_46 rfl rfl (s_1greatestLeaf _  (by assumption) (by omega)) (by first | rfl | (simp only [nI_add, pk_mul]; first | done | rfl)) rfl ?_
  refine AR.run g_X4_bar_49_4 55 [some (.ref 4096), some (.int (nI (v))), none, none, none] [.int (nI (2)), .int (nI (v)), .ref 4097, .int (L_1greatestLeaf_4 (F_1read_tp q tc tp tf tla) p)] _ [] rfl trivial ?_
  refine AR.callV1 (4097) [.int (nI (v)), .int (nI (2))] [.int (L_1greatestLeaf_4 (F_1read_tp q tc tp tf tla) p)] lk_4_110 dc_X4_bar_55 rfl rfl (s_0volumeFact _ v 2 (by omega) (by first | assumption | exact (hLT v (by omega)).1) (by first | assumption | exact (hLT v (by omega)).2) (by omega)) (by first | rfl | (simp only [nI_add, pk_mul]; first | done | rfl)) rfl ?_
  refine AR.top (vf2 (hLT v (by omega))) ?_
  refine AR.lt2 (tgt := 71) dc_X4_bar_58 (by decide) (fun c58_3 => ?_) (fun c58_3 => absurd c58_3 (fun q9 => q9 hgr))
  refine AR.run g_X4_bar_71_2 75 [some (.ref 4096), some (.int (nI (v))), none, none, none] [.ref 4097] _ [] rfl trivial ?_
  refine AR.callV0 (4097) [] [] lk_4_45 dc_X4_bar_75 rfl rfl (s_0save _  (by assumption) (by omega) (by assumption) (by omega)) (by first | rfl | (simp only [nI_add, pk_mul]; first | done | rfl)) rfl ?_
  refine AR.run g_X4_bar_78_2 80 [some (.ref 4096), some (.int (nI (v))), some (.int (nI (0))), none, none] [] _ [] rfl trivial ?_
  refine AR.cast (L' := [some (.ref 4096), some (.int (nI (v))), some (.int (nI (0))), none, none]) (by first | rfl | (rw [L_4bar_80])) rfl (by first | rfl | (rw [L_4bar_80])) (AR.loopN p (fun j80 => [some (.ref 4096), some (.int (nI (v))), some (.int (nI (j80))), none, none]) (fun j80 => (hp o0 (ar (L_4bar_80 v q A B T tc tp tf tla j80) (F_0save_K a b T K) (F_0save_os a b os) (F_0save_sc b sc)) (te_ tc (F_1read_tp q tc tp tf tla) tl_ (F_1read_tn q tc tp tf tla) (F_1read_trd q tc tp tf tla) (F_1read_tv q tc tp tf tla) (F_1read_tdg q tc tp tf tla) (F_1read_tf q tc tp tf tla) (F_1read_tla q tc tp tf tla)) (pl pg ph pc pm) m0 u0 l0)) (fun j80 => True) (fun j80 hj80 hI80 ih80 => ?_) (fun hI80 => ?_) 0 (by omega) (by first | trivial | omega))
  · have hab := hAB j80 (by omega)
    have hA_3 : TI (L_4bar_80 v q A B T tc tp tf tla j80) nv nc nr ne := TI_bar hT j80
    refine AR.run g_X4_bar_80_3 85 [some (.ref 4096), some (.int (nI (v))), some (.int (nI (j80))), none, none] [.ref 8192, .int (nI (j80))] _ [] rfl trivial ?_
    refine AR.callV1 (8192) [] [.int (nI (j80))] lk_4_149 dc_X4_bar_85 rfl rfl (s_1partCount _  ) (by first | rfl | (simp only [nI_add, pk_mul]; first | done | rfl)) rfl ?_
    refine AR.cast (L' := [some (.ref 4096), some (.int (nI (v))), some (.int (nI (j80))), none, none]) (st' := [.int (nI (p)), .int (nI (j80))]) rfl (by rw [htn]) rfl ?_
    refine AR.ge2N (tgt := 138) (a := j80) (b := p) dc_X4_bar_88 (by decide) (by first | rfl | (simp only [nI_add, pk_mul]; first | done | rfl)) (by first | rfl | (simp only [nI_add, pk_mul]; first | done | rfl)) (by omega) (by omega) (fun c88_4 => absurd c88_4 (by omega)) (fun c88_4 => ?_)
    refine AR.run g_X4_bar_91_4 97 [some (.ref 4096), some (.int (nI (v))), some (.int (nI (j80))), none, none] [.int (nI (0)), .int (nI (j80)), .ref 8192] _ [] rfl trivial ?_
    refine AR.callV1 (8192) [.int (nI (j80)), .int (nI (0))] [] lk_4_152 dc_X4_bar_97 rfl rfl (s_1partFact _ j80 0 (by omega) (by omega)) (by first | rfl | (simp only [nI_add, pk_mul]; first | done | rfl)) rfl ?_
    refine AR.top (hA j80 (by omega)) ?_
    refine AR.run g_X4_bar_100_5 107 [some (.ref 4096), some (.int (nI (v))), some (.int (nI (j80))), some (.int (nI ((A j80)))), none] [.int (nI (1)), .int (nI (j80)), .ref 8192] _ [] rfl trivial ?_
    refine AR.callV1 (8192) [.int (nI (j80)), .int (nI (1))] [] lk_4_152 dc_X4_bar_107 rfl rfl (s_1partFact _ j80 1 (by omega) (by omega)) (by first | rfl | (simp only [nI_add, pk_mul]; first | done | rfl)) rfl ?_
    refine AR.top (hB j80 (by omega)) ?_
    refine AR.run g_X4_bar_110_10 126 [some (.ref 4096), some (.int (nI (v))), some (.int (nI (j80))), some (.int (nI ((A j80)))), some (.int (nI ((B j80))))] [.int (nI (2)), .int (nI (j80)), .ref 8192, .int (nI ((B j80))), .int (nI ((A j80))), .int (nI (v)), .ref 4097] _ [] rfl trivial ?_
    refine AR.callV1 (8192) [.int (nI (j80)), .int (nI (2))] [.int (nI ((B j80))), .int (nI ((A j80))), .int (nI (v)), .ref 4097] lk_4_152 dc_X4_bar_126 rfl rfl (s_1partFact _ j80 2 (by omega) (by omega)) (by first | rfl | (simp only [nI_add, pk_mul]; first | done | rfl)) rfl ?_
    refine AR.callV0 (4097) [.int (nI (v)), .int (nI ((A j80))), .int (nI ((B j80))), .int ((F_1read_tp q tc tp tf tla) (j80 * 3 + 2))] [] lk_4_155 dc_X4_bar_129 rfl rfl (s_0barLeaves _ v (A j80) (B j80) ((F_1read_tp q tc tp tf tla) (j80 * 3 + 2)) (by omega) (by omega) (by omega)) (by first | rfl | (simp only [nI_add, pk_mul]; first | done | rfl)) rfl ?_
    refine AR.run g_X4_bar_132_2 80 [some (.ref 4096), some (.int (nI (v))), some (.int ((nI (j80)) + (nI (1)))), some (.int (nI ((A j80)))), some (.int (nI ((B j80))))] [] _ [] rfl trivial ?_
    refine AR.drop (L' := [some (.ref 4096), some (.int (nI (v))), some (.int ((nI (j80)) + (nI (1)))), none, none]) ⟨rfl, rfl, rfl, trivial⟩ ?_
    have e5 : L_4bar_80 v q A B T tc tp tf tla (j80 + 1) = (F_0barLeaves_T v (A j80) (B j80) ((F_1read_tp q tc tp tf tla) (j80 * 3 + 2)) (L_4bar_80 v q A B T tc tp tf tla j80)) := by rw [L_4bar_80, B_4bar_80]
    exact AR.cast (L' := [some (.ref 4096), some (.int (nI (v))), some (.int (nI (j80 + 1))), none, none]) (by first | rfl | (rw [nI_add]; done) | (rw [nI_add]; rfl)) rfl (by rw [e5]) (ih80 (by first | trivial | omega))
  · have hA_5 : TI (L_4bar_80 v q A B T tc tp tf tla p) nv nc nr ne := TI_bar hT p
    refine AR.run g_X4_bar_80_3 85 [some (.ref 4096), some (.int (nI (v))), some (.int (nI (p))), none, none] [.ref 8192, .int (nI (p))] _ [] rfl trivial ?_
    refine AR.callV1 (8192) [] [.int (nI (p))] lk_4_149 dc_X4_bar_85 rfl rfl (s_1partCount _  ) (by first | rfl | (simp only [nI_add, pk_mul]; first | done | rfl)) rfl ?_
    refine AR.cast (L' := [some (.ref 4096), some (.int (nI (v))), some (.int (nI (p))), none, none]) (st' := [.int (nI (p)), .int (nI (p))]) rfl (by rw [htn]) rfl ?_
    refine AR.ge2N (tgt := 138) (a := p) (b := p) dc_X4_bar_88 (by decide) (by first | rfl | (simp only [nI_add, pk_mul]; first | done | rfl)) (by first | rfl | (simp only [nI_add, pk_mul]; first | done | rfl)) (by omega) (by omega) (fun c88_6 => ?_) (fun c88_6 => absurd c88_6 (by omega))
    refine AR.run g_X4_bar_138_2 142 [some (.ref 4096), some (.int (nI (v))), some (.int (nI (p))), none, none] [.ref 8192] _ [] rfl trivial ?_
    refine AR.callV1 (8192) [] [] lk_4_129 dc_X4_bar_142 rfl rfl (s_1empty _  ) (by first | rfl | (simp only [nI_add, pk_mul]; first | done | rfl)) rfl ?_
    refine AR.run g_X4_bar_145_4 151 [some (.ref 4096), some (.int (nI (v))), some (.int (nI (p))), none, none] [.int (nI (v)), .ref 4097] _ [] rfl trivial ?_
    refine AR.callV1 (4097) [.int (nI (v))] [] lk_4_159 dc_X4_bar_151 rfl rfl (s_0barredLeaves _ v (by omega) (by first | assumption | exact (hLT v (by omega)).1 | exact (hA_3.2.2.2.2.1 v (by omega)).1 | exact (hA_5.2.2.2.2.1 v (by omega)).1) (by first | assumption | exact (hLT v (by omega)).2 | exact (hA_3.2.2.2.2.1 v (by omega)).2 | exact (hA_5.2.2.2.2.1 v (by omega)).2)) (by first | rfl | (simp only [nI_add, pk_mul]; first | done | rfl)) rfl ?_
    have e7_0 : F_4bar v q p A B T tc tp tf tla = (L_0barredLeaves_4 v (L_4bar_80 v q A B T tc tp tf tla p) (lt (L_4bar_80 v q A B T tc tp tf tla p) v)) := by rw [F_4bar]
    have e7_1 : F_4bar_T v q p A B T tc tp tf tla = (L_4bar_80 v q A B T tc tp tf tla p) := by rw [F_4bar_T]
    have e7_2 : F_4bar_K a b T K = (F_0save_K a b T K) := by rw [F_4bar_K]
    have e7_3 : F_4bar_os a b os = (F_0save_os a b os) := by rw [F_4bar_os]
    have e7_4 : F_4bar_sc b sc = (F_0save_sc b sc) := by rw [F_4bar_sc]
    have e7_5 : F_4bar_tp q tc tp tf tla = (F_1read_tp q tc tp tf tla) := by rw [F_4bar_tp]
    have e7_6 : F_4bar_tl_ = F_1empty_tl_ := by rw [F_4bar_tl_]
    have e7_7 : F_4bar_tn q tc tp tf tla = (F_1read_tn q tc tp tf tla) := by rw [F_4bar_tn]
    have e7_8 : F_4bar_trd q tc tp tf tla = (F_1read_trd q tc tp tf tla) := by rw [F_4bar_trd]
    have e7_9 : F_4bar_tv q tc tp tf tla = (F_1read_tv q tc tp tf tla) := by rw [F_4bar_tv]
    have e7_10 : F_4bar_tdg q tc tp tf tla = (F_1read_tdg q tc tp tf tla) := by rw [F_4bar_tdg]
    have e7_11 : F_4bar_tf q tc tp tf tla = (F_1read_tf q tc tp tf tla) := by rw [F_4bar_tf]
    have e7_12 : F_4bar_tla q tc tp tf tla = (F_1read_tla q tc tp tf tla) := by rw [F_4bar_tla]
    exact AR.retI dc_X4_bar_154 rfl e7_0.symm (by rw [e7_1, e7_2, e7_3, e7_4, e7_5, e7_6, e7_7, e7_8, e7_9, e7_10, e7_11, e7_12])
