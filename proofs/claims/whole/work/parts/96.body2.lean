theorem g_L_law_824_1 : ab_oks M_L_law [(824, .aload_n 1, 1, 1, 0, 0, .null)] = true := by decide +kernel
theorem lk_L_136 : ab_lkV "LeafCradlesLaw" 136 M_X4_clearBuffer 0 [245, 246, 247, 91, 248] = true := by decide +kernel
theorem dc_L_law_825 : decode (AM.bytes M_L_law) 825 = .ok (.invokevirtual 136, 3) := by decide +kernel
theorem g_L_law_828_1 : ab_oks M_L_law [(828, .aload_n 2, 1, 2, 0, 0, .null)] = true := by decide +kernel
theorem lk_L_139 : ab_lkV "LeafCradlesLaw" 139 M_X5_clearBuffer 0 [1115, 1116, 1117, 97, 1118] = true := by decide +kernel
theorem dc_L_law_829 : decode (AM.bytes M_L_law) 829 = .ok (.invokevirtual 139, 3) := by decide +kernel
theorem dc_L_law_832 : decode (AM.bytes M_L_law) 832 = .ok (.if_icmp .eq 990, 3) := by decide +kernel
set_option maxRecDepth 100000 in
set_option maxHeartbeats 4000000 in
theorem la_10 {E : AE} {sx : Nat → Int32} {sl i mc ms : Nat} {T K : Nat → Nat → Int32} {os sc : Int32} {tc tp : Nat → Int32} {tl_ tn trd tv tdg tf tla : Int32} {pg ph pc : Nat → Int32} {pm : Int32} {z sa ro te fr to un ga pi be : Nat → Int32} {bm en sta sv ln th : Int32} {hh : Int64} {ov : Nat → Int64} (hi : i + 4 < sl) (hsl : sl < 100000) (hP : ∃ x : Int32, PD E M_X4_clearBuffer M_X5_clearBuffer (.int x) (ol_ sx sl lsS gsS) (ar T K os sc) (te_ tc tp tl_ tn trd tv tdg tf tla) (pl pg ph pc pm) (mo z sa ro te fr to un ga pi be bm en sta sv ln th hh) ov) (cont : ∀ (th : Int32) (ov : Nat → Int64) (h : AH), INV (ol_ sx sl lsS gsS) th ov h → ∃ h' : AH, AR E M_L_law 13 1822 [some (.ref 0), some (.ref 4096), some (.ref 16384), some (.ref 20480), some (.int (nI (i))), none, none, none, none] [] h (.inl (some (.int (nI 1)))) h' mc ms) : ∃ h' : AH, AR E M_L_law 13 824 [some (.ref 0), some (.ref 4096), some (.ref 16384), some (.ref 20480), some (.int (nI (i))), none, none, none, none] [] (hp (ol_ sx sl lsS gsS) (ar T K os sc) (te_ tc tp tl_ tn trd tv tdg tf tla) (pl pg ph pc pm) (mo z sa ro te fr to un ga pi be bm en sta sv ln th hh) (ou ov) []) (.inl (some (.int (nI 1)))) h' (mc + 1) (ms + 6) := by
  obtain ⟨x, a1, t1, p1, h2, th1, hL, hM, hI⟩ := hP
  obtain ⟨h', hc⟩ := cont th1 ov _ hI
  obtain ⟨T1, K1, os1, sc1, tc1, tp1, tl_1, tn1, trd1, tv1, tdg1, tf1, tla1, pg1, ph1, pc1, pm1, z1, sa1, ro1, te1, fr1, to1, un1, ga1, pi1, be1, bm1, en1, sta1, sv1, ln1, hh1, nv1, nc1, nr1, ne1, a9, b9, q9, rfl, -⟩ := id hI
  refine ⟨h', AR.room (show mc ≤ mc + 1 by omega) (show ms ≤ ms + 6 by omega) ?_⟩
  refine AR.run g_L_law_824_1 825 [some (.ref 0), some (.ref 4096), some (.ref 16384), some (.ref 20480), some (.int (nI (i))), none, none, none, none] [.ref 4096] _ [] rfl trivial ?_
  refine AR.callV1 (4096) [] [] lk_L_136 dc_L_law_825 rfl rfl (hL) (by first | rfl | (simp only [nI_add, pk_mul]; first | done | rfl)) rfl ?_
  refine AR.run g_L_law_828_1 829 [some (.ref 0), some (.ref 4096), some (.ref 16384), some (.ref 20480), some (.int (nI (i))), none, none, none, none] [.ref 16384, .int (x)] _ [] rfl trivial ?_
  refine AR.callV1 (16384) [] [.int (x)] lk_L_139 dc_L_law_829 rfl rfl (hM) (by first | rfl | (simp only [nI_add, pk_mul]; first | done | rfl)) rfl ?_
  refine AR.eq2 (tgt := 1822) dc_L_law_832 (by decide) (fun c832_1 => ?_) (fun c832_1 => absurd c832_1 (fun q => q rfl))
  exact hc
theorem g_L_law_837_1 : ab_oks M_L_law [(837, .aload_n 1, 1, 1, 0, 0, .null)] = true := by decide +kernel
theorem lk_L_140 : ab_lkV "LeafCradlesLaw" 140 M_X4_firstError 0 [253, 254, 255, 91, 256] = true := by decide +kernel
theorem dc_L_law_838 : decode (AM.bytes M_L_law) 838 = .ok (.invokevirtual 140, 3) := by decide +kernel
theorem g_L_law_841_1 : ab_oks M_L_law [(841, .aload_n 2, 1, 2, 0, 0, .null)] = true := by decide +kernel
theorem lk_L_143 : ab_lkV "LeafCradlesLaw" 143 M_X5_firstError 0 [1119, 1120, 1121, 97, 1122] = true := by decide +kernel
theorem dc_L_law_842 : decode (AM.bytes M_L_law) 842 = .ok (.invokevirtual 143, 3) := by decide +kernel
theorem dc_L_law_845 : decode (AM.bytes M_L_law) 845 = .ok (.if_icmp .eq 977, 3) := by decide +kernel
set_option maxRecDepth 100000 in
set_option maxHeartbeats 4000000 in
theorem la_11 {E : AE} {sx : Nat → Int32} {sl i mc ms : Nat} {T K : Nat → Nat → Int32} {os sc : Int32} {tc tp : Nat → Int32} {tl_ tn trd tv tdg tf tla : Int32} {pg ph pc : Nat → Int32} {pm : Int32} {z sa ro te fr to un ga pi be : Nat → Int32} {bm en sta sv ln th : Int32} {hh : Int64} {ov : Nat → Int64} (hi : i + 4 < sl) (hsl : sl < 100000) (hP : ∃ x : Int32, PD E M_X4_firstError M_X5_firstError (.int x) (ol_ sx sl lsS gsS) (ar T K os sc) (te_ tc tp tl_ tn trd tv tdg tf tla) (pl pg ph pc pm) (mo z sa ro te fr to un ga pi be bm en sta sv ln th hh) ov) (cont : ∀ (th : Int32) (ov : Nat → Int64) (h : AH), INV (ol_ sx sl lsS gsS) th ov h → ∃ h' : AH, AR E M_L_law 13 1822 [some (.ref 0), some (.ref 4096), some (.ref 16384), some (.ref 20480), some (.int (nI (i))), none, none, none, none] [] h (.inl (some (.int (nI 1)))) h' mc ms) : ∃ h' : AH, AR E M_L_law 13 837 [some (.ref 0), some (.ref 4096), some (.ref 16384), some (.ref 20480), some (.int (nI (i))), none, none, none, none] [] (hp (ol_ sx sl lsS gsS) (ar T K os sc) (te_ tc tp tl_ tn trd tv tdg tf tla) (pl pg ph pc pm) (mo z sa ro te fr to un ga pi be bm en sta sv ln th hh) (ou ov) []) (.inl (some (.int (nI 1)))) h' (mc + 1) (ms + 6) := by
  obtain ⟨x, a1, t1, p1, h2, th1, hL, hM, hI⟩ := hP
  obtain ⟨h', hc⟩ := cont th1 ov _ hI
  obtain ⟨T1, K1, os1, sc1, tc1, tp1, tl_1, tn1, trd1, tv1, tdg1, tf1, tla1, pg1, ph1, pc1, pm1, z1, sa1, ro1, te1, fr1, to1, un1, ga1, pi1, be1, bm1, en1, sta1, sv1, ln1, hh1, nv1, nc1, nr1, ne1, a9, b9, q9, rfl, -⟩ := id hI
  refine ⟨h', AR.room (show mc ≤ mc + 1 by omega) (show ms ≤ ms + 6 by omega) ?_⟩
  refine AR.run g_L_law_837_1 838 [some (.ref 0), some (.ref 4096), some (.ref 16384), some (.ref 20480), some (.int (nI (i))), none, none, none, none] [.ref 4096] _ [] rfl trivial ?_
  refine AR.callV1 (4096) [] [] lk_L_140 dc_L_law_838 rfl rfl (hL) (by first | rfl | (simp only [nI_add, pk_mul]; first | done | rfl)) rfl ?_
  refine AR.run g_L_law_841_1 842 [some (.ref 0), some (.ref 4096), some (.ref 16384), some (.ref 20480), some (.int (nI (i))), none, none, none, none] [.ref 16384, .int (x)] _ [] rfl trivial ?_
  refine AR.callV1 (16384) [] [.int (x)] lk_L_143 dc_L_law_842 rfl rfl (hM) (by first | rfl | (simp only [nI_add, pk_mul]; first | done | rfl)) rfl ?_
  refine AR.eq2 (tgt := 1822) dc_L_law_845 (by decide) (fun c845_1 => ?_) (fun c845_1 => absurd c845_1 (fun q => q rfl))
  exact hc
theorem g_L_law_850_5 : ab_oks M_L_law [(850, .aload_n 1, 1, 1, 0, 0, .null), (851, .aload_n 0, 1, 0, 0, 0, .null), (852, .iload 4, 2, 4, 0, 0, .null), (854, .iconst 1, 1, 0, 0, 0, .int (nI (1))), (855, .iadd, 1, 0, 0, 0, .null)] = true := by decide +kernel
theorem ok_L_law_856 : ab_ok M_L_law (856, .iaload, 1, 0, 0, 0, .null) = true := by decide +kernel
theorem g_L_law_857_1 : ab_oks M_L_law [(857, .aload_n 3, 1, 3, 0, 0, .null)] = true := by decide +kernel
theorem lk_L_144 : ab_lkS "LeafCradlesLaw" 144 M_L_bar 3 [789, 790, 90, 791] = true := by decide +kernel
theorem dc_L_law_858 : decode (AM.bytes M_L_law) 858 = .ok (.invokestatic 144, 3) := by decide +kernel
theorem g_L_law_861_6 : ab_oks M_L_law [(861, .istore 5, 2, 5, 0, 0, .null), (863, .aload_n 2, 1, 2, 0, 0, .null), (864, .aload_n 0, 1, 0, 0, 0, .null), (865, .iload 4, 2, 4, 0, 0, .null), (867, .iconst 1, 1, 0, 0, 0, .int (nI (1))), (868, .iadd, 1, 0, 0, 0, .null)] = true := by decide +kernel
theorem ok_L_law_869 : ab_ok M_L_law (869, .iaload, 1, 0, 0, 0, .null) = true := by decide +kernel
theorem lk_L_146 : ab_lkV "LeafCradlesLaw" 146 M_X5_bar 1 [1147, 1148, 1149, 97, 1150] = true := by decide +kernel
theorem dc_L_law_870 : decode (AM.bytes M_L_law) 870 = .ok (.invokevirtual 146, 3) := by decide +kernel
theorem g_L_law_873_2 : ab_oks M_L_law [(873, .istore 6, 2, 6, 0, 0, .null), (875, .aload_n 2, 1, 2, 0, 0, .null)] = true := by decide +kernel
theorem dc_L_law_876 : decode (AM.bytes M_L_law) 876 = .ok (.invokevirtual 102, 3) := by decide +kernel
theorem g_L_law_879_1 : ab_oks M_L_law [(879, .iload 5, 2, 5, 0, 0, .null)] = true := by decide +kernel
theorem dc_L_law_881 : decode (AM.bytes M_L_law) 881 = .ok (.if_icmp .eq 5, 3) := by decide +kernel
theorem g_L_law_886_1 : ab_oks M_L_law [(886, .iload 5, 2, 5, 0, 0, .null)] = true := by decide +kernel
theorem dc_L_law_888 : decode (AM.bytes M_L_law) 888 = .ok (.ifCond .ne 15, 3) := by decide +kernel
theorem g_L_law_903_1 : ab_oks M_L_law [(903, .goto 919, 3, 1822, 0, 0, .null)] = true := by decide +kernel
theorem g_L_law_891_2 : ab_oks M_L_law [(891, .aload_n 3, 1, 3, 0, 0, .null), (892, .iconst 0, 1, 0, 0, 0, .int (nI (0)))] = true := by decide +kernel
theorem ok_L_law_893 : ab_ok M_L_law (893, .laload, 1, 0, 0, 0, .null) = true := by decide +kernel
theorem g_L_law_894_3 : ab_oks M_L_law [(894, .iload 6, 2, 6, 0, 0, .null), (896, .i2l, 1, 0, 0, 0, .null), (897, .lcmp, 1, 0, 0, 0, .null)] = true := by decide +kernel
theorem dc_L_law_898 : decode (AM.bytes M_L_law) 898 = .ok (.ifCond .eq 5, 3) := by decide +kernel
set_option maxRecDepth 100000 in
set_option maxHeartbeats 4000000 in
theorem la_12 {E : AE} {sx : Nat → Int32} {sl i mc ms : Nat} {T K : Nat → Nat → Int32} {os sc : Int32} {tc tp : Nat → Int32} {tl_ tn trd tv tdg tf tla : Int32} {pg ph pc : Nat → Int32} {pm : Int32} {z sa ro te fr to un ga pi be : Nat → Int32} {bm en sta sv ln th : Int32} {hh : Int64} {ov : Nat → Int64} (hi : i + 4 < sl) (hsl : sl < 100000) (hP : PO E M_L_bar M_X5_bar [.ref 4096, .int (sx (i + 1)), .ref 20480] [.ref 16384, .int (sx (i + 1))] (ol_ sx sl lsS gsS) (ar T K os sc) (te_ tc tp tl_ tn trd tv tdg tf tla) (pl pg ph pc pm) (mo z sa ro te fr to un ga pi be bm en sta sv ln th hh) ov) (cont : ∀ (th : Int32) (ov : Nat → Int64) (h : AH), INV (ol_ sx sl lsS gsS) th ov h → ∃ h' : AH, AR E M_L_law 13 1822 [some (.ref 0), some (.ref 4096), some (.ref 16384), some (.ref 20480), some (.int (nI (i))), none, none, none, none] [] h (.inl (some (.int (nI 1)))) h' mc ms) : ∃ h' : AH, AR E M_L_law 13 850 [some (.ref 0), some (.ref 4096), some (.ref 16384), some (.ref 20480), some (.int (nI (i))), none, none, none, none] [] (hp (ol_ sx sl lsS gsS) (ar T K os sc) (te_ tc tp tl_ tn trd tv tdg tf tla) (pl pg ph pc pm) (mo z sa ro te fr to un ga pi be bm en sta sv ln th hh) (ou ov) []) (.inl (some (.int (nI 1)))) h' (mc + 1) (ms + 6) := by
  obtain ⟨k, b, a1, t1, p1, ov1, h2, mc1, ms1, hmc, hms, hL, hM, hI, he⟩ := hP
  obtain ⟨h', hc⟩ := cont k ov1 _ hI
  obtain ⟨T1, K1, os1, sc1, tc1, tp1, tl_1, tn1, trd1, tv1, tdg1, tf1, tla1, pg1, ph1, pc1, pm1, z1, sa1, ro1, te1, fr1, to1, un1, ga1, pi1, be1, bm1, en1, sta1, sv1, ln1, hh1, nv1, nc1, nr1, ne1, a9, b9, q9, rfl, -⟩ := id hI
  have he2 : k = 0 → ov1 0 = b.toInt64 := he
  refine ⟨h', AR.room (show mc1 + mc ≤ mc + 1 by omega) (show ms1 + ms ≤ ms + 6 by omega) ?_⟩
  refine AR.run g_L_law_850_5 856 [some (.ref 0), some (.ref 4096), some (.ref 16384), some (.ref 20480), some (.int (nI (i))), none, none, none, none] [.int ((nI (i)) + (nI (1))), .ref 0, .ref 4096] _ [] rfl trivial ?_
  refine AR.ald (n := 0) (e := (i + 1)) ok_L_law_856 (by first | rfl | (simp only [nI_add, pk_mul]; first | done | rfl)) rfl (by omega) (by first | decide | omega) ?_
  refine AR.run g_L_law_857_1 858 [some (.ref 0), some (.ref 4096), some (.ref 16384), some (.ref 20480), some (.int (nI (i))), none, none, none, none] [.ref 20480, .int (sx (i + 1)), .ref 4096] _ [] rfl trivial ?_
  refine AR.callS (r := some (.int k)) (av := [.ref 4096, .int (sx (i + 1)), .ref 20480]) (rest := []) lk_L_144 dc_L_law_858 hL (by first | rfl | (simp only [nI_add, pk_mul]; first | done | rfl)) rfl ?_
  refine AR.cast (st' := [.int (k)]) rfl rfl rfl ?_
  refine AR.run g_L_law_861_6 869 [some (.ref 0), some (.ref 4096), some (.ref 16384), some (.ref 20480), some (.int (nI (i))), some (.int (k)), none, none, none] [.int ((nI (i)) + (nI (1))), .ref 0, .ref 16384] _ [] rfl trivial ?_
  refine AR.ald (n := 0) (e := (i + 1)) ok_L_law_869 (by first | rfl | (simp only [nI_add, pk_mul]; first | done | rfl)) rfl (by omega) (by first | decide | omega) ?_
  refine AR.callV1 (16384) [.int (sx (i + 1))] [] lk_L_146 dc_L_law_870 rfl rfl hM (by first | rfl | (simp only [nI_add, pk_mul]; first | done | rfl)) rfl ?_
  refine AR.run g_L_law_873_2 876 [some (.ref 0), some (.ref 4096), some (.ref 16384), some (.ref 20480), some (.int (nI (i))), some (.int (k)), some (.int (b)), none, none] [.ref 16384] _ [] rfl trivial ?_
  refine AR.callV1 (16384) [] [] lk_L_102 dc_L_law_876 rfl rfl (s_thrown _) (by first | rfl | (simp only [nI_add, pk_mul]; first | done | rfl)) rfl ?_
  refine AR.run g_L_law_879_1 881 [some (.ref 0), some (.ref 4096), some (.ref 16384), some (.ref 20480), some (.int (nI (i))), some (.int (k)), some (.int (b)), none, none] [.int (k), .int (k)] _ [] rfl trivial ?_
  refine AR.eq2 (tgt := 886) dc_L_law_881 (by decide) (fun c881_1 => ?_) (fun c881_1 => absurd c881_1 (fun q => q rfl))
  refine AR.run g_L_law_886_1 888 [some (.ref 0), some (.ref 4096), some (.ref 16384), some (.ref 20480), some (.int (nI (i))), some (.int (k)), some (.int (b)), none, none] [.int (k)] _ [] rfl trivial ?_
  refine AR.ne (tgt := 903) dc_L_law_888 (by decide) (fun c888_2 => ?_) (fun c888_2 => ?_)
  · refine AR.run g_L_law_903_1 1822 [some (.ref 0), some (.ref 4096), some (.ref 16384), some (.ref 20480), some (.int (nI (i))), some (.int (k)), some (.int (b)), none, none] [] _ [] rfl trivial ?_
    refine AR.drop (L' := [some (.ref 0), some (.ref 4096), some (.ref 16384), some (.ref 20480), some (.int (nI (i))), none, none, none, none]) ⟨rfl, rfl, rfl, rfl, rfl, trivial⟩ ?_
    exact hc
  · refine AR.run g_L_law_891_2 893 [some (.ref 0), some (.ref 4096), some (.ref 16384), some (.ref 20480), some (.int (nI (i))), some (.int (k)), some (.int (b)), none, none] [.int (nI (0)), .ref 20480] _ [] rfl trivial ?_
    refine AR.lald (n := 0) (e := 0) ok_L_law_893 (by first | rfl | (simp only [nI_add, pk_mul]; first | done | rfl)) rfl (by omega) (by decide) ?_
    refine AR.run g_L_law_894_3 898 [some (.ref 0), some (.ref 4096), some (.ref 16384), some (.ref 20480), some (.int (nI (i))), some (.int (k)), some (.int (b)), none, none] [.int (lg_cmp (ov1 0) (b.toInt64))] _ [] rfl trivial ?_
    refine AR.eq (tgt := 903) dc_L_law_898 (by decide) (fun c898_3 => ?_) (fun c898_3 => absurd c898_3 (fun q9 => q9 (lcmp_eq (he2 (by assumption)))))
    refine AR.run g_L_law_903_1 1822 [some (.ref 0), some (.ref 4096), some (.ref 16384), some (.ref 20480), some (.int (nI (i))), some (.int (k)), some (.int (b)), none, none] [] _ [] rfl trivial ?_
    refine AR.drop (L' := [some (.ref 0), some (.ref 4096), some (.ref 16384), some (.ref 20480), some (.int (nI (i))), none, none, none, none]) ⟨rfl, rfl, rfl, rfl, rfl, trivial⟩ ?_
    exact hc
theorem g_L_law_906_2 : ab_oks M_L_law [(906, .aload_n 1, 1, 1, 0, 0, .null), (907, .aload_n 3, 1, 3, 0, 0, .null)] = true := by decide +kernel
theorem lk_L_147 : ab_lkS "LeafCradlesLaw" 147 M_L_undo 2 [821, 822, 90, 823] = true := by decide +kernel
theorem dc_L_law_908 : decode (AM.bytes M_L_law) 908 = .ok (.invokestatic 147, 3) := by decide +kernel
theorem g_L_law_911_2 : ab_oks M_L_law [(911, .istore 5, 2, 5, 0, 0, .null), (913, .aload_n 2, 1, 2, 0, 0, .null)] = true := by decide +kernel
theorem lk_L_149 : ab_lkV "LeafCradlesLaw" 149 M_X5_undo 0 [1159, 1160, 1161, 97, 1162] = true := by decide +kernel
theorem dc_L_law_914 : decode (AM.bytes M_L_law) 914 = .ok (.invokevirtual 149, 3) := by decide +kernel
theorem g_L_law_917_2 : ab_oks M_L_law [(917, .istore 6, 2, 6, 0, 0, .null), (919, .aload_n 2, 1, 2, 0, 0, .null)] = true := by decide +kernel
theorem dc_L_law_920 : decode (AM.bytes M_L_law) 920 = .ok (.invokevirtual 102, 3) := by decide +kernel
theorem g_L_law_923_1 : ab_oks M_L_law [(923, .iload 5, 2, 5, 0, 0, .null)] = true := by decide +kernel
theorem dc_L_law_925 : decode (AM.bytes M_L_law) 925 = .ok (.if_icmp .eq 5, 3) := by decide +kernel
theorem g_L_law_930_1 : ab_oks M_L_law [(930, .iload 5, 2, 5, 0, 0, .null)] = true := by decide +kernel
theorem dc_L_law_932 : decode (AM.bytes M_L_law) 932 = .ok (.ifCond .ne 15, 3) := by decide +kernel
theorem g_L_law_947_1 : ab_oks M_L_law [(947, .goto 875, 3, 1822, 0, 0, .null)] = true := by decide +kernel
theorem g_L_law_935_2 : ab_oks M_L_law [(935, .aload_n 3, 1, 3, 0, 0, .null), (936, .iconst 0, 1, 0, 0, 0, .int (nI (0)))] = true := by decide +kernel
theorem ok_L_law_937 : ab_ok M_L_law (937, .laload, 1, 0, 0, 0, .null) = true := by decide +kernel
theorem g_L_law_938_3 : ab_oks M_L_law [(938, .iload 6, 2, 6, 0, 0, .null), (940, .i2l, 1, 0, 0, 0, .null), (941, .lcmp, 1, 0, 0, 0, .null)] = true := by decide +kernel
theorem dc_L_law_942 : decode (AM.bytes M_L_law) 942 = .ok (.ifCond .eq 5, 3) := by decide +kernel
set_option maxRecDepth 100000 in
set_option maxHeartbeats 4000000 in
theorem la_13 {E : AE} {sx : Nat → Int32} {sl i mc ms : Nat} {T K : Nat → Nat → Int32} {os sc : Int32} {tc tp : Nat → Int32} {tl_ tn trd tv tdg tf tla : Int32} {pg ph pc : Nat → Int32} {pm : Int32} {z sa ro te fr to un ga pi be : Nat → Int32} {bm en sta sv ln th : Int32} {hh : Int64} {ov : Nat → Int64} (hi : i + 4 < sl) (hsl : sl < 100000) (hP : PO E M_L_undo M_X5_undo [.ref 4096, .ref 20480] [.ref 16384] (ol_ sx sl lsS gsS) (ar T K os sc) (te_ tc tp tl_ tn trd tv tdg tf tla) (pl pg ph pc pm) (mo z sa ro te fr to un ga pi be bm en sta sv ln th hh) ov) (cont : ∀ (th : Int32) (ov : Nat → Int64) (h : AH), INV (ol_ sx sl lsS gsS) th ov h → ∃ h' : AH, AR E M_L_law 13 1822 [some (.ref 0), some (.ref 4096), some (.ref 16384), some (.ref 20480), some (.int (nI (i))), none, none, none, none] [] h (.inl (some (.int (nI 1)))) h' mc ms) : ∃ h' : AH, AR E M_L_law 13 906 [some (.ref 0), some (.ref 4096), some (.ref 16384), some (.ref 20480), some (.int (nI (i))), none, none, none, none] [] (hp (ol_ sx sl lsS gsS) (ar T K os sc) (te_ tc tp tl_ tn trd tv tdg tf tla) (pl pg ph pc pm) (mo z sa ro te fr to un ga pi be bm en sta sv ln th hh) (ou ov) []) (.inl (some (.int (nI 1)))) h' (mc + 1) (ms + 6) := by
  obtain ⟨k, b, a1, t1, p1, ov1, h2, mc1, ms1, hmc, hms, hL, hM, hI, he⟩ := hP
  obtain ⟨h', hc⟩ := cont k ov1 _ hI
  obtain ⟨T1, K1, os1, sc1, tc1, tp1, tl_1, tn1, trd1, tv1, tdg1, tf1, tla1, pg1, ph1, pc1, pm1, z1, sa1, ro1, te1, fr1, to1, un1, ga1, pi1, be1, bm1, en1, sta1, sv1, ln1, hh1, nv1, nc1, nr1, ne1, a9, b9, q9, rfl, -⟩ := id hI
  have he2 : k = 0 → ov1 0 = b.toInt64 := he
  refine ⟨h', AR.room (show mc1 + mc ≤ mc + 1 by omega) (show ms1 + ms ≤ ms + 6 by omega) ?_⟩
  refine AR.run g_L_law_906_2 908 [some (.ref 0), some (.ref 4096), some (.ref 16384), some (.ref 20480), some (.int (nI (i))), none, none, none, none] [.ref 20480, .ref 4096] _ [] rfl trivial ?_
  refine AR.callS (r := some (.int k)) (av := [.ref 4096, .ref 20480]) (rest := []) lk_L_147 dc_L_law_908 hL (by first | rfl | (simp only [nI_add, pk_mul]; first | done | rfl)) rfl ?_
  refine AR.cast (st' := [.int (k)]) rfl rfl rfl ?_
  refine AR.run g_L_law_911_2 914 [some (.ref 0), some (.ref 4096), some (.ref 16384), some (.ref 20480), some (.int (nI (i))), some (.int (k)), none, none, none] [.ref 16384] _ [] rfl trivial ?_
  refine AR.callV1 (16384) [] [] lk_L_149 dc_L_law_914 rfl rfl hM (by first | rfl | (simp only [nI_add, pk_mul]; first | done | rfl)) rfl ?_
  refine AR.run g_L_law_917_2 920 [some (.ref 0), some (.ref 4096), some (.ref 16384), some (.ref 20480), some (.int (nI (i))), some (.int (k)), some (.int (b)), none, none] [.ref 16384] _ [] rfl trivial ?_
  refine AR.callV1 (16384) [] [] lk_L_102 dc_L_law_920 rfl rfl (s_thrown _) (by first | rfl | (simp only [nI_add, pk_mul]; first | done | rfl)) rfl ?_
  refine AR.run g_L_law_923_1 925 [some (.ref 0), some (.ref 4096), some (.ref 16384), some (.ref 20480), some (.int (nI (i))), some (.int (k)), some (.int (b)), none, none] [.int (k), .int (k)] _ [] rfl trivial ?_
  refine AR.eq2 (tgt := 930) dc_L_law_925 (by decide) (fun c925_1 => ?_) (fun c925_1 => absurd c925_1 (fun q => q rfl))
  refine AR.run g_L_law_930_1 932 [some (.ref 0), some (.ref 4096), some (.ref 16384), some (.ref 20480), some (.int (nI (i))), some (.int (k)), some (.int (b)), none, none] [.int (k)] _ [] rfl trivial ?_
  refine AR.ne (tgt := 947) dc_L_law_932 (by decide) (fun c932_2 => ?_) (fun c932_2 => ?_)
  · refine AR.run g_L_law_947_1 1822 [some (.ref 0), some (.ref 4096), some (.ref 16384), some (.ref 20480), some (.int (nI (i))), some (.int (k)), some (.int (b)), none, none] [] _ [] rfl trivial ?_
    refine AR.drop (L' := [some (.ref 0), some (.ref 4096), some (.ref 16384), some (.ref 20480), some (.int (nI (i))), none, none, none, none]) ⟨rfl, rfl, rfl, rfl, rfl, trivial⟩ ?_
    exact hc
  · refine AR.run g_L_law_935_2 937 [some (.ref 0), some (.ref 4096), some (.ref 16384), some (.ref 20480), some (.int (nI (i))), some (.int (k)), some (.int (b)), none, none] [.int (nI (0)), .ref 20480] _ [] rfl trivial ?_
    refine AR.lald (n := 0) (e := 0) ok_L_law_937 (by first | rfl | (simp only [nI_add, pk_mul]; first | done | rfl)) rfl (by omega) (by decide) ?_
    refine AR.run g_L_law_938_3 942 [some (.ref 0), some (.ref 4096), some (.ref 16384), some (.ref 20480), some (.int (nI (i))), some (.int (k)), some (.int (b)), none, none] [.int (lg_cmp (ov1 0) (b.toInt64))] _ [] rfl trivial ?_
    refine AR.eq (tgt := 947) dc_L_law_942 (by decide) (fun c942_3 => ?_) (fun c942_3 => absurd c942_3 (fun q9 => q9 (lcmp_eq (he2 (by assumption)))))
    refine AR.run g_L_law_947_1 1822 [some (.ref 0), some (.ref 4096), some (.ref 16384), some (.ref 20480), some (.int (nI (i))), some (.int (k)), some (.int (b)), none, none] [] _ [] rfl trivial ?_
    refine AR.drop (L' := [some (.ref 0), some (.ref 4096), some (.ref 16384), some (.ref 20480), some (.int (nI (i))), none, none, none, none]) ⟨rfl, rfl, rfl, rfl, rfl, trivial⟩ ?_
    exact hc
theorem g_L_law_950_5 : ab_oks M_L_law [(950, .aload_n 1, 1, 1, 0, 0, .null), (951, .aload_n 0, 1, 0, 0, 0, .null), (952, .iload 4, 2, 4, 0, 0, .null), (954, .iconst 1, 1, 0, 0, 0, .int (nI (1))), (955, .iadd, 1, 0, 0, 0, .null)] = true := by decide +kernel
theorem ok_L_law_956 : ab_ok M_L_law (956, .iaload, 1, 0, 0, 0, .null) = true := by decide +kernel
theorem g_L_law_957_4 : ab_oks M_L_law [(957, .aload_n 0, 1, 0, 0, 0, .null), (958, .iload 4, 2, 4, 0, 0, .null), (960, .iconst 2, 1, 0, 0, 0, .int (nI (2))), (961, .iadd, 1, 0, 0, 0, .null)] = true := by decide +kernel
theorem ok_L_law_962 : ab_ok M_L_law (962, .iaload, 1, 0, 0, 0, .null) = true := by decide +kernel
theorem g_L_law_963_1 : ab_oks M_L_law [(963, .aload_n 3, 1, 3, 0, 0, .null)] = true := by decide +kernel
theorem lk_L_150 : ab_lkS "LeafCradlesLaw" 150 M_L_volume 4 [841, 842, 90, 843] = true := by decide +kernel
theorem dc_L_law_964 : decode (AM.bytes M_L_law) 964 = .ok (.invokestatic 150, 3) := by decide +kernel
theorem g_L_law_967_6 : ab_oks M_L_law [(967, .istore 5, 2, 5, 0, 0, .null), (969, .aload_n 2, 1, 2, 0, 0, .null), (970, .aload_n 0, 1, 0, 0, 0, .null), (971, .iload 4, 2, 4, 0, 0, .null), (973, .iconst 1, 1, 0, 0, 0, .int (nI (1))), (974, .iadd, 1, 0, 0, 0, .null)] = true := by decide +kernel
theorem ok_L_law_975 : ab_ok M_L_law (975, .iaload, 1, 0, 0, 0, .null) = true := by decide +kernel
theorem g_L_law_976_4 : ab_oks M_L_law [(976, .aload_n 0, 1, 0, 0, 0, .null), (977, .iload 4, 2, 4, 0, 0, .null), (979, .iconst 2, 1, 0, 0, 0, .int (nI (2))), (980, .iadd, 1, 0, 0, 0, .null)] = true := by decide +kernel
theorem ok_L_law_981 : ab_ok M_L_law (981, .iaload, 1, 0, 0, 0, .null) = true := by decide +kernel
theorem lk_L_152 : ab_lkV "LeafCradlesLaw" 152 M_X5_volume 2 [1163, 1164, 1165, 97, 1166] = true := by decide +kernel
theorem dc_L_law_982 : decode (AM.bytes M_L_law) 982 = .ok (.invokevirtual 152, 3) := by decide +kernel
theorem g_L_law_985_2 : ab_oks M_L_law [(985, .istore 6, 2, 6, 0, 0, .null), (987, .aload_n 2, 1, 2, 0, 0, .null)] = true := by decide +kernel
theorem dc_L_law_988 : decode (AM.bytes M_L_law) 988 = .ok (.invokevirtual 102, 3) := by decide +kernel
theorem g_L_law_991_1 : ab_oks M_L_law [(991, .iload 5, 2, 5, 0, 0, .null)] = true := by decide +kernel
theorem dc_L_law_993 : decode (AM.bytes M_L_law) 993 = .ok (.if_icmp .eq 5, 3) := by decide +kernel
theorem g_L_law_998_1 : ab_oks M_L_law [(998, .iload 5, 2, 5, 0, 0, .null)] = true := by decide +kernel
theorem dc_L_law_1000 : decode (AM.bytes M_L_law) 1000 = .ok (.ifCond .ne 15, 3) := by decide +kernel
theorem g_L_law_1015_1 : ab_oks M_L_law [(1015, .goto 807, 3, 1822, 0, 0, .null)] = true := by decide +kernel
theorem g_L_law_1003_2 : ab_oks M_L_law [(1003, .aload_n 3, 1, 3, 0, 0, .null), (1004, .iconst 0, 1, 0, 0, 0, .int (nI (0)))] = true := by decide +kernel
theorem ok_L_law_1005 : ab_ok M_L_law (1005, .laload, 1, 0, 0, 0, .null) = true := by decide +kernel
theorem g_L_law_1006_3 : ab_oks M_L_law [(1006, .iload 6, 2, 6, 0, 0, .null), (1008, .i2l, 1, 0, 0, 0, .null), (1009, .lcmp, 1, 0, 0, 0, .null)] = true := by decide +kernel
theorem dc_L_law_1010 : decode (AM.bytes M_L_law) 1010 = .ok (.ifCond .eq 5, 3) := by decide +kernel
set_option maxRecDepth 100000 in
set_option maxHeartbeats 4000000 in
theorem la_14 {E : AE} {sx : Nat → Int32} {sl i mc ms : Nat} {T K : Nat → Nat → Int32} {os sc : Int32} {tc tp : Nat → Int32} {tl_ tn trd tv tdg tf tla : Int32} {pg ph pc : Nat → Int32} {pm : Int32} {z sa ro te fr to un ga pi be : Nat → Int32} {bm en sta sv ln th : Int32} {hh : Int64} {ov : Nat → Int64} (hi : i + 4 < sl) (hsl : sl < 100000) (hP : PO E M_L_volume M_X5_volume [.ref 4096, .int (sx (i + 1)), .int (sx (i + 2)), .ref 20480] [.ref 16384, .int (sx (i + 1)), .int (sx (i + 2))] (ol_ sx sl lsS gsS) (ar T K os sc) (te_ tc tp tl_ tn trd tv tdg tf tla) (pl pg ph pc pm) (mo z sa ro te fr to un ga pi be bm en sta sv ln th hh) ov) (cont : ∀ (th : Int32) (ov : Nat → Int64) (h : AH), INV (ol_ sx sl lsS gsS) th ov h → ∃ h' : AH, AR E M_L_law 13 1822 [some (.ref 0), some (.ref 4096), some (.ref 16384), some (.ref 20480), some (.int (nI (i))), none, none, none, none] [] h (.inl (some (.int (nI 1)))) h' mc ms) : ∃ h' : AH, AR E M_L_law 13 950 [some (.ref 0), some (.ref 4096), some (.ref 16384), some (.ref 20480), some (.int (nI (i))), none, none, none, none] [] (hp (ol_ sx sl lsS gsS) (ar T K os sc) (te_ tc tp tl_ tn trd tv tdg tf tla) (pl pg ph pc pm) (mo z sa ro te fr to un ga pi be bm en sta sv ln th hh) (ou ov) []) (.inl (some (.int (nI 1)))) h' (mc + 1) (ms + 6) := by
  obtain ⟨k, b, a1, t1, p1, ov1, h2, mc1, ms1, hmc, hms, hL, hM, hI, he⟩ := hP
  obtain ⟨h', hc⟩ := cont k ov1 _ hI
  obtain ⟨T1, K1, os1, sc1, tc1, tp1, tl_1, tn1, trd1, tv1, tdg1, tf1, tla1, pg1, ph1, pc1, pm1, z1, sa1, ro1, te1, fr1, to1, un1, ga1, pi1, be1, bm1, en1, sta1, sv1, ln1, hh1, nv1, nc1, nr1, ne1, a9, b9, q9, rfl, -⟩ := id hI
  have he2 : k = 0 → ov1 0 = b.toInt64 := he
  refine ⟨h', AR.room (show mc1 + mc ≤ mc + 1 by omega) (show ms1 + ms ≤ ms + 6 by omega) ?_⟩
  refine AR.run g_L_law_950_5 956 [some (.ref 0), some (.ref 4096), some (.ref 16384), some (.ref 20480), some (.int (nI (i))), none, none, none, none] [.int ((nI (i)) + (nI (1))), .ref 0, .ref 4096] _ [] rfl trivial ?_
  refine AR.ald (n := 0) (e := (i + 1)) ok_L_law_956 (by first | rfl | (simp only [nI_add, pk_mul]; first | done | rfl)) rfl (by omega) (by first | decide | omega) ?_
  refine AR.run g_L_law_957_4 962 [some (.ref 0), some (.ref 4096), some (.ref 16384), some (.ref 20480), some (.int (nI (i))), none, none, none, none] [.int ((nI (i)) + (nI (2))), .ref 0, .int (sx (i + 1)), .ref 4096] _ [] rfl trivial ?_
  refine AR.ald (n := 0) (e := (i + 2)) ok_L_law_962 (by first | rfl | (simp only [nI_add, pk_mul]; first | done | rfl)) rfl (by omega) (by first | decide | omega) ?_
  refine AR.run g_L_law_963_1 964 [some (.ref 0), some (.ref 4096), some (.ref 16384), some (.ref 20480), some (.int (nI (i))), none, none, none, none] [.ref 20480, .int (sx (i + 2)), .int (sx (i + 1)), .ref 4096] _ [] rfl trivial ?_
  refine AR.callS (r := some (.int k)) (av := [.ref 4096, .int (sx (i + 1)), .int (sx (i + 2)), .ref 20480]) (rest := []) lk_L_150 dc_L_law_964 hL (by first | rfl | (simp only [nI_add, pk_mul]; first | done | rfl)) rfl ?_
  refine AR.cast (st' := [.int (k)]) rfl rfl rfl ?_
  refine AR.run g_L_law_967_6 975 [some (.ref 0), some (.ref 4096), some (.ref 16384), some (.ref 20480), some (.int (nI (i))), some (.int (k)), none, none, none] [.int ((nI (i)) + (nI (1))), .ref 0, .ref 16384] _ [] rfl trivial ?_
  refine AR.ald (n := 0) (e := (i + 1)) ok_L_law_975 (by first | rfl | (simp only [nI_add, pk_mul]; first | done | rfl)) rfl (by omega) (by first | decide | omega) ?_
  refine AR.run g_L_law_976_4 981 [some (.ref 0), some (.ref 4096), some (.ref 16384), some (.ref 20480), some (.int (nI (i))), some (.int (k)), none, none, none] [.int ((nI (i)) + (nI (2))), .ref 0, .int (sx (i + 1)), .ref 16384] _ [] rfl trivial ?_
  refine AR.ald (n := 0) (e := (i + 2)) ok_L_law_981 (by first | rfl | (simp only [nI_add, pk_mul]; first | done | rfl)) rfl (by omega) (by first | decide | omega) ?_
  refine AR.callV1 (16384) [.int (sx (i + 1)), .int (sx (i + 2))] [] lk_L_152 dc_L_law_982 rfl rfl hM (by first | rfl | (simp only [nI_add, pk_mul]; first | done | rfl)) rfl ?_
  refine AR.run g_L_law_985_2 988 [some (.ref 0), some (.ref 4096), some (.ref 16384), some (.ref 20480), some (.int (nI (i))), some (.int (k)), some (.int (b)), none, none] [.ref 16384] _ [] rfl trivial ?_
  refine AR.callV1 (16384) [] [] lk_L_102 dc_L_law_988 rfl rfl (s_thrown _) (by first | rfl | (simp only [nI_add, pk_mul]; first | done | rfl)) rfl ?_
  refine AR.run g_L_law_991_1 993 [some (.ref 0), some (.ref 4096), some (.ref 16384), some (.ref 20480), some (.int (nI (i))), some (.int (k)), some (.int (b)), none, none] [.int (k), .int (k)] _ [] rfl trivial ?_
  refine AR.eq2 (tgt := 998) dc_L_law_993 (by decide) (fun c993_1 => ?_) (fun c993_1 => absurd c993_1 (fun q => q rfl))
  refine AR.run g_L_law_998_1 1000 [some (.ref 0), some (.ref 4096), some (.ref 16384), some (.ref 20480), some (.int (nI (i))), some (.int (k)), some (.int (b)), none, none] [.int (k)] _ [] rfl trivial ?_
  refine AR.ne (tgt := 1015) dc_L_law_1000 (by decide) (fun c1000_2 => ?_) (fun c1000_2 => ?_)
  · refine AR.run g_L_law_1015_1 1822 [some (.ref 0), some (.ref 4096), some (.ref 16384), some (.ref 20480), some (.int (nI (i))), some (.int (k)), some (.int (b)), none, none] [] _ [] rfl trivial ?_
    refine AR.drop (L' := [some (.ref 0), some (.ref 4096), some (.ref 16384), some (.ref 20480), some (.int (nI (i))), none, none, none, none]) ⟨rfl, rfl, rfl, rfl, rfl, trivial⟩ ?_
    exact hc
  · refine AR.run g_L_law_1003_2 1005 [some (.ref 0), some (.ref 4096), some (.ref 16384), some (.ref 20480), some (.int (nI (i))), some (.int (k)), some (.int (b)), none, none] [.int (nI (0)), .ref 20480] _ [] rfl trivial ?_
    refine AR.lald (n := 0) (e := 0) ok_L_law_1005 (by first | rfl | (simp only [nI_add, pk_mul]; first | done | rfl)) rfl (by omega) (by decide) ?_
    refine AR.run g_L_law_1006_3 1010 [some (.ref 0), some (.ref 4096), some (.ref 16384), some (.ref 20480), some (.int (nI (i))), some (.int (k)), some (.int (b)), none, none] [.int (lg_cmp (ov1 0) (b.toInt64))] _ [] rfl trivial ?_
    refine AR.eq (tgt := 1015) dc_L_law_1010 (by decide) (fun c1010_3 => ?_) (fun c1010_3 => absurd c1010_3 (fun q9 => q9 (lcmp_eq (he2 (by assumption)))))
    refine AR.run g_L_law_1015_1 1822 [some (.ref 0), some (.ref 4096), some (.ref 16384), some (.ref 20480), some (.int (nI (i))), some (.int (k)), some (.int (b)), none, none] [] _ [] rfl trivial ?_
    refine AR.drop (L' := [some (.ref 0), some (.ref 4096), some (.ref 16384), some (.ref 20480), some (.int (nI (i))), none, none, none, none]) ⟨rfl, rfl, rfl, rfl, rfl, trivial⟩ ?_
    exact hc
theorem g_L_law_1018_5 : ab_oks M_L_law [(1018, .aload_n 1, 1, 1, 0, 0, .null), (1019, .aload_n 0, 1, 0, 0, 0, .null), (1020, .iload 4, 2, 4, 0, 0, .null), (1022, .iconst 1, 1, 0, 0, 0, .int (nI (1))), (1023, .iadd, 1, 0, 0, 0, .null)] = true := by decide +kernel
theorem ok_L_law_1024 : ab_ok M_L_law (1024, .iaload, 1, 0, 0, 0, .null) = true := by decide +kernel
theorem g_L_law_1025_4 : ab_oks M_L_law [(1025, .aload_n 0, 1, 0, 0, 0, .null), (1026, .iload 4, 2, 4, 0, 0, .null), (1028, .iconst 2, 1, 0, 0, 0, .int (nI (2))), (1029, .iadd, 1, 0, 0, 0, .null)] = true := by decide +kernel
theorem ok_L_law_1030 : ab_ok M_L_law (1030, .iaload, 1, 0, 0, 0, .null) = true := by decide +kernel
theorem g_L_law_1031_4 : ab_oks M_L_law [(1031, .aload_n 0, 1, 0, 0, 0, .null), (1032, .iload 4, 2, 4, 0, 0, .null), (1034, .iconst 3, 1, 0, 0, 0, .int (nI (3))), (1035, .iadd, 1, 0, 0, 0, .null)] = true := by decide +kernel
theorem ok_L_law_1036 : ab_ok M_L_law (1036, .iaload, 1, 0, 0, 0, .null) = true := by decide +kernel
theorem g_L_law_1037_1 : ab_oks M_L_law [(1037, .aload_n 3, 1, 3, 0, 0, .null)] = true := by decide +kernel
theorem lk_L_153 : ab_lkS "LeafCradlesLaw" 153 M_L_leaf 5 [848, 849, 90, 850] = true := by decide +kernel
theorem dc_L_law_1038 : decode (AM.bytes M_L_law) 1038 = .ok (.invokestatic 153, 3) := by decide +kernel
theorem g_L_law_1041_6 : ab_oks M_L_law [(1041, .istore 5, 2, 5, 0, 0, .null), (1043, .aload_n 2, 1, 2, 0, 0, .null), (1044, .aload_n 0, 1, 0, 0, 0, .null), (1045, .iload 4, 2, 4, 0, 0, .null), (1047, .iconst 1, 1, 0, 0, 0, .int (nI (1))), (1048, .iadd, 1, 0, 0, 0, .null)] = true := by decide +kernel
theorem ok_L_law_1049 : ab_ok M_L_law (1049, .iaload, 1, 0, 0, 0, .null) = true := by decide +kernel
theorem g_L_law_1050_4 : ab_oks M_L_law [(1050, .aload_n 0, 1, 0, 0, 0, .null), (1051, .iload 4, 2, 4, 0, 0, .null), (1053, .iconst 2, 1, 0, 0, 0, .int (nI (2))), (1054, .iadd, 1, 0, 0, 0, .null)] = true := by decide +kernel
theorem ok_L_law_1055 : ab_ok M_L_law (1055, .iaload, 1, 0, 0, 0, .null) = true := by decide +kernel
theorem g_L_law_1056_4 : ab_oks M_L_law [(1056, .aload_n 0, 1, 0, 0, 0, .null), (1057, .iload 4, 2, 4, 0, 0, .null), (1059, .iconst 3, 1, 0, 0, 0, .int (nI (3))), (1060, .iadd, 1, 0, 0, 0, .null)] = true := by decide +kernel
theorem ok_L_law_1061 : ab_ok M_L_law (1061, .iaload, 1, 0, 0, 0, .null) = true := by decide +kernel
theorem lk_L_155 : ab_lkV "LeafCradlesLaw" 155 M_X5_leaf 3 [1183, 1184, 1185, 97, 1186] = true := by decide +kernel
theorem dc_L_law_1062 : decode (AM.bytes M_L_law) 1062 = .ok (.invokevirtual 155, 3) := by decide +kernel
theorem g_L_law_1065_2 : ab_oks M_L_law [(1065, .istore 6, 2, 6, 0, 0, .null), (1067, .aload_n 2, 1, 2, 0, 0, .null)] = true := by decide +kernel
theorem dc_L_law_1068 : decode (AM.bytes M_L_law) 1068 = .ok (.invokevirtual 102, 3) := by decide +kernel
theorem g_L_law_1071_1 : ab_oks M_L_law [(1071, .iload 5, 2, 5, 0, 0, .null)] = true := by decide +kernel
theorem dc_L_law_1073 : decode (AM.bytes M_L_law) 1073 = .ok (.if_icmp .eq 5, 3) := by decide +kernel
theorem g_L_law_1078_1 : ab_oks M_L_law [(1078, .iload 5, 2, 5, 0, 0, .null)] = true := by decide +kernel
theorem dc_L_law_1080 : decode (AM.bytes M_L_law) 1080 = .ok (.ifCond .ne 15, 3) := by decide +kernel
theorem g_L_law_1095_1 : ab_oks M_L_law [(1095, .goto 727, 3, 1822, 0, 0, .null)] = true := by decide +kernel
theorem g_L_law_1083_2 : ab_oks M_L_law [(1083, .aload_n 3, 1, 3, 0, 0, .null), (1084, .iconst 0, 1, 0, 0, 0, .int (nI (0)))] = true := by decide +kernel
theorem ok_L_law_1085 : ab_ok M_L_law (1085, .laload, 1, 0, 0, 0, .null) = true := by decide +kernel
theorem g_L_law_1086_3 : ab_oks M_L_law [(1086, .iload 6, 2, 6, 0, 0, .null), (1088, .i2l, 1, 0, 0, 0, .null), (1089, .lcmp, 1, 0, 0, 0, .null)] = true := by decide +kernel
theorem dc_L_law_1090 : decode (AM.bytes M_L_law) 1090 = .ok (.ifCond .eq 5, 3) := by decide +kernel
set_option maxRecDepth 100000 in
set_option maxHeartbeats 4000000 in
theorem la_15 {E : AE} {sx : Nat → Int32} {sl i mc ms : Nat} {T K : Nat → Nat → Int32} {os sc : Int32} {tc tp : Nat → Int32} {tl_ tn trd tv tdg tf tla : Int32} {pg ph pc : Nat → Int32} {pm : Int32} {z sa ro te fr to un ga pi be : Nat → Int32} {bm en sta sv ln th : Int32} {hh : Int64} {ov : Nat → Int64} (hi : i + 4 < sl) (hsl : sl < 100000) (hP : PO E M_L_leaf M_X5_leaf [.ref 4096, .int (sx (i + 1)), .int (sx (i + 2)), .int (sx (i + 3)), .ref 20480] [.ref 16384, .int (sx (i + 1)), .int (sx (i + 2)), .int (sx (i + 3))] (ol_ sx sl lsS gsS) (ar T K os sc) (te_ tc tp tl_ tn trd tv tdg tf tla) (pl pg ph pc pm) (mo z sa ro te fr to un ga pi be bm en sta sv ln th hh) ov) (cont : ∀ (th : Int32) (ov : Nat → Int64) (h : AH), INV (ol_ sx sl lsS gsS) th ov h → ∃ h' : AH, AR E M_L_law 13 1822 [some (.ref 0), some (.ref 4096), some (.ref 16384), some (.ref 20480), some (.int (nI (i))), none, none, none, none] [] h (.inl (some (.int (nI 1)))) h' mc ms) : ∃ h' : AH, AR E M_L_law 13 1018 [some (.ref 0), some (.ref 4096), some (.ref 16384), some (.ref 20480), some (.int (nI (i))), none, none, none, none] [] (hp (ol_ sx sl lsS gsS) (ar T K os sc) (te_ tc tp tl_ tn trd tv tdg tf tla) (pl pg ph pc pm) (mo z sa ro te fr to un ga pi be bm en sta sv ln th hh) (ou ov) []) (.inl (some (.int (nI 1)))) h' (mc + 1) (ms + 6) := by
  obtain ⟨k, b, a1, t1, p1, ov1, h2, mc1, ms1, hmc, hms, hL, hM, hI, he⟩ := hP
  obtain ⟨h', hc⟩ := cont k ov1 _ hI
  obtain ⟨T1, K1, os1, sc1, tc1, tp1, tl_1, tn1, trd1, tv1, tdg1, tf1, tla1, pg1, ph1, pc1, pm1, z1, sa1, ro1, te1, fr1, to1, un1, ga1, pi1, be1, bm1, en1, sta1, sv1, ln1, hh1, nv1, nc1, nr1, ne1, a9, b9, q9, rfl, -⟩ := id hI
  have he2 : k = 0 → ov1 0 = b.toInt64 := he
  refine ⟨h', AR.room (show mc1 + mc ≤ mc + 1 by omega) (show ms1 + ms ≤ ms + 6 by omega) ?_⟩
  refine AR.run g_L_law_1018_5 1024 [some (.ref 0), some (.ref 4096), some (.ref 16384), some (.ref 20480), some (.int (nI (i))), none, none, none, none] [.int ((nI (i)) + (nI (1))), .ref 0, .ref 4096] _ [] rfl trivial ?_
  refine AR.ald (n := 0) (e := (i + 1)) ok_L_law_1024 (by first | rfl | (simp only [nI_add, pk_mul]; first | done | rfl)) rfl (by omega) (by first | decide | omega) ?_
  refine AR.run g_L_law_1025_4 1030 [some (.ref 0), some (.ref 4096), some (.ref 16384), some (.ref 20480), some (.int (nI (i))), none, none, none, none] [.int ((nI (i)) + (nI (2))), .ref 0, .int (sx (i + 1)), .ref 4096] _ [] rfl trivial ?_
  refine AR.ald (n := 0) (e := (i + 2)) ok_L_law_1030 (by first | rfl | (simp only [nI_add, pk_mul]; first | done | rfl)) rfl (by omega) (by first | decide | omega) ?_
  refine AR.run g_L_law_1031_4 1036 [some (.ref 0), some (.ref 4096), some (.ref 16384), some (.ref 20480), some (.int (nI (i))), none, none, none, none] [.int ((nI (i)) + (nI (3))), .ref 0, .int (sx (i + 2)), .int (sx (i + 1)), .ref 4096] _ [] rfl trivial ?_
  refine AR.ald (n := 0) (e := (i + 3)) ok_L_law_1036 (by first | rfl | (simp only [nI_add, pk_mul]; first | done | rfl)) rfl (by omega) (by first | decide | omega) ?_
  refine AR.run g_L_law_1037_1 1038 [some (.ref 0), some (.ref 4096), some (.ref 16384), some (.ref 20480), some (.int (nI (i))), none, none, none, none] [.ref 20480, .int (sx (i + 3)), .int (sx (i + 2)), .int (sx (i + 1)), .ref 4096] _ [] rfl trivial ?_
  refine AR.callS (r := some (.int k)) (av := [.ref 4096, .int (sx (i + 1)), .int (sx (i + 2)), .int (sx (i + 3)), .ref 20480]) (rest := []) lk_L_153 dc_L_law_1038 hL (by first | rfl | (simp only [nI_add, pk_mul]; first | done | rfl)) rfl ?_
  refine AR.cast (st' := [.int (k)]) rfl rfl rfl ?_
  refine AR.run g_L_law_1041_6 1049 [some (.ref 0), some (.ref 4096), some (.ref 16384), some (.ref 20480), some (.int (nI (i))), some (.int (k)), none, none, none] [.int ((nI (i)) + (nI (1))), .ref 0, .ref 16384] _ [] rfl trivial ?_
  refine AR.ald (n := 0) (e := (i + 1)) ok_L_law_1049 (by first | rfl | (simp only [nI_add, pk_mul]; first | done | rfl)) rfl (by omega) (by first | decide | omega) ?_
  refine AR.run g_L_law_1050_4 1055 [some (.ref 0), some (.ref 4096), some (.ref 16384), some (.ref 20480), some (.int (nI (i))), some (.int (k)), none, none, none] [.int ((nI (i)) + (nI (2))), .ref 0, .int (sx (i + 1)), .ref 16384] _ [] rfl trivial ?_
  refine AR.ald (n := 0) (e := (i + 2)) ok_L_law_1055 (by first | rfl | (simp only [nI_add, pk_mul]; first | done | rfl)) rfl (by omega) (by first | decide | omega) ?_
  refine AR.run g_L_law_1056_4 1061 [some (.ref 0), some (.ref 4096), some (.ref 16384), some (.ref 20480), some (.int (nI (i))), some (.int (k)), none, none, none] [.int ((nI (i)) + (nI (3))), .ref 0, .int (sx (i + 2)), .int (sx (i + 1)), .ref 16384] _ [] rfl trivial ?_
  refine AR.ald (n := 0) (e := (i + 3)) ok_L_law_1061 (by first | rfl | (simp only [nI_add, pk_mul]; first | done | rfl)) rfl (by omega) (by first | decide | omega) ?_
  refine AR.callV1 (16384) [.int (sx (i + 1)), .int (sx (i + 2)), .int (sx (i + 3))] [] lk_L_155 dc_L_law_1062 rfl rfl hM (by first | rfl | (simp only [nI_add, pk_mul]; first | done | rfl)) rfl ?_
  refine AR.run g_L_law_1065_2 1068 [some (.ref 0), some (.ref 4096), some (.ref 16384), some (.ref 20480), some (.int (nI (i))), some (.int (k)), some (.int (b)), none, none] [.ref 16384] _ [] rfl trivial ?_
  refine AR.callV1 (16384) [] [] lk_L_102 dc_L_law_1068 rfl rfl (s_thrown _) (by first | rfl | (simp only [nI_add, pk_mul]; first | done | rfl)) rfl ?_
  refine AR.run g_L_law_1071_1 1073 [some (.ref 0), some (.ref 4096), some (.ref 16384), some (.ref 20480), some (.int (nI (i))), some (.int (k)), some (.int (b)), none, none] [.int (k), .int (k)] _ [] rfl trivial ?_
  refine AR.eq2 (tgt := 1078) dc_L_law_1073 (by decide) (fun c1073_1 => ?_) (fun c1073_1 => absurd c1073_1 (fun q => q rfl))
  refine AR.run g_L_law_1078_1 1080 [some (.ref 0), some (.ref 4096), some (.ref 16384), some (.ref 20480), some (.int (nI (i))), some (.int (k)), some (.int (b)), none, none] [.int (k)] _ [] rfl trivial ?_
  refine AR.ne (tgt := 1095) dc_L_law_1080 (by decide) (fun c1080_2 => ?_) (fun c1080_2 => ?_)
  · refine AR.run g_L_law_1095_1 1822 [some (.ref 0), some (.ref 4096), some (.ref 16384), some (.ref 20480), some (.int (nI (i))), some (.int (k)), some (.int (b)), none, none] [] _ [] rfl trivial ?_
    refine AR.drop (L' := [some (.ref 0), some (.ref 4096), some (.ref 16384), some (.ref 20480), some (.int (nI (i))), none, none, none, none]) ⟨rfl, rfl, rfl, rfl, rfl, trivial⟩ ?_
    exact hc
  · refine AR.run g_L_law_1083_2 1085 [some (.ref 0), some (.ref 4096), some (.ref 16384), some (.ref 20480), some (.int (nI (i))), some (.int (k)), some (.int (b)), none, none] [.int (nI (0)), .ref 20480] _ [] rfl trivial ?_
    refine AR.lald (n := 0) (e := 0) ok_L_law_1085 (by first | rfl | (simp only [nI_add, pk_mul]; first | done | rfl)) rfl (by omega) (by decide) ?_
    refine AR.run g_L_law_1086_3 1090 [some (.ref 0), some (.ref 4096), some (.ref 16384), some (.ref 20480), some (.int (nI (i))), some (.int (k)), some (.int (b)), none, none] [.int (lg_cmp (ov1 0) (b.toInt64))] _ [] rfl trivial ?_
    refine AR.eq (tgt := 1095) dc_L_law_1090 (by decide) (fun c1090_3 => ?_) (fun c1090_3 => absurd c1090_3 (fun q9 => q9 (lcmp_eq (he2 (by assumption)))))
    refine AR.run g_L_law_1095_1 1822 [some (.ref 0), some (.ref 4096), some (.ref 16384), some (.ref 20480), some (.int (nI (i))), some (.int (k)), some (.int (b)), none, none] [] _ [] rfl trivial ?_
    refine AR.drop (L' := [some (.ref 0), some (.ref 4096), some (.ref 16384), some (.ref 20480), some (.int (nI (i))), none, none, none, none]) ⟨rfl, rfl, rfl, rfl, rfl, trivial⟩ ?_
    exact hc
theorem g_L_law_1098_5 : ab_oks M_L_law [(1098, .aload_n 1, 1, 1, 0, 0, .null), (1099, .aload_n 0, 1, 0, 0, 0, .null), (1100, .iload 4, 2, 4, 0, 0, .null), (1102, .iconst 1, 1, 0, 0, 0, .int (nI (1))), (1103, .iadd, 1, 0, 0, 0, .null)] = true := by decide +kernel
theorem ok_L_law_1104 : ab_ok M_L_law (1104, .iaload, 1, 0, 0, 0, .null) = true := by decide +kernel
theorem g_L_law_1105_4 : ab_oks M_L_law [(1105, .aload_n 0, 1, 0, 0, 0, .null), (1106, .iload 4, 2, 4, 0, 0, .null), (1108, .iconst 2, 1, 0, 0, 0, .int (nI (2))), (1109, .iadd, 1, 0, 0, 0, .null)] = true := by decide +kernel
theorem ok_L_law_1110 : ab_ok M_L_law (1110, .iaload, 1, 0, 0, 0, .null) = true := by decide +kernel
theorem g_L_law_1111_1 : ab_oks M_L_law [(1111, .aload_n 3, 1, 3, 0, 0, .null)] = true := by decide +kernel
theorem lk_L_156 : ab_lkS "LeafCradlesLaw" 156 M_L_cradle 4 [855, 856, 90, 857] = true := by decide +kernel
theorem dc_L_law_1112 : decode (AM.bytes M_L_law) 1112 = .ok (.invokestatic 156, 3) := by decide +kernel
theorem g_L_law_1115_6 : ab_oks M_L_law [(1115, .istore 5, 2, 5, 0, 0, .null), (1117, .aload_n 2, 1, 2, 0, 0, .null), (1118, .aload_n 0, 1, 0, 0, 0, .null), (1119, .iload 4, 2, 4, 0, 0, .null), (1121, .iconst 1, 1, 0, 0, 0, .int (nI (1))), (1122, .iadd, 1, 0, 0, 0, .null)] = true := by decide +kernel
theorem ok_L_law_1123 : ab_ok M_L_law (1123, .iaload, 1, 0, 0, 0, .null) = true := by decide +kernel
theorem g_L_law_1124_4 : ab_oks M_L_law [(1124, .aload_n 0, 1, 0, 0, 0, .null), (1125, .iload 4, 2, 4, 0, 0, .null), (1127, .iconst 2, 1, 0, 0, 0, .int (nI (2))), (1128, .iadd, 1, 0, 0, 0, .null)] = true := by decide +kernel
theorem ok_L_law_1129 : ab_ok M_L_law (1129, .iaload, 1, 0, 0, 0, .null) = true := by decide +kernel
theorem lk_L_158 : ab_lkV "LeafCradlesLaw" 158 M_X5_cradle 2 [1191, 1192, 1193, 97, 1194] = true := by decide +kernel
theorem dc_L_law_1130 : decode (AM.bytes M_L_law) 1130 = .ok (.invokevirtual 158, 3) := by decide +kernel
theorem g_L_law_1133_2 : ab_oks M_L_law [(1133, .istore 6, 2, 6, 0, 0, .null), (1135, .aload_n 2, 1, 2, 0, 0, .null)] = true := by decide +kernel
theorem dc_L_law_1136 : decode (AM.bytes M_L_law) 1136 = .ok (.invokevirtual 102, 3) := by decide +kernel
theorem g_L_law_1139_1 : ab_oks M_L_law [(1139, .iload 5, 2, 5, 0, 0, .null)] = true := by decide +kernel
theorem dc_L_law_1141 : decode (AM.bytes M_L_law) 1141 = .ok (.if_icmp .eq 5, 3) := by decide +kernel
theorem g_L_law_1146_1 : ab_oks M_L_law [(1146, .iload 5, 2, 5, 0, 0, .null)] = true := by decide +kernel
theorem dc_L_law_1148 : decode (AM.bytes M_L_law) 1148 = .ok (.ifCond .ne 15, 3) := by decide +kernel
theorem g_L_law_1163_1 : ab_oks M_L_law [(1163, .goto 659, 3, 1822, 0, 0, .null)] = true := by decide +kernel
theorem g_L_law_1151_2 : ab_oks M_L_law [(1151, .aload_n 3, 1, 3, 0, 0, .null), (1152, .iconst 0, 1, 0, 0, 0, .int (nI (0)))] = true := by decide +kernel
theorem ok_L_law_1153 : ab_ok M_L_law (1153, .laload, 1, 0, 0, 0, .null) = true := by decide +kernel
theorem g_L_law_1154_3 : ab_oks M_L_law [(1154, .iload 6, 2, 6, 0, 0, .null), (1156, .i2l, 1, 0, 0, 0, .null), (1157, .lcmp, 1, 0, 0, 0, .null)] = true := by decide +kernel
theorem dc_L_law_1158 : decode (AM.bytes M_L_law) 1158 = .ok (.ifCond .eq 5, 3) := by decide +kernel
set_option maxRecDepth 100000 in
set_option maxHeartbeats 4000000 in
theorem la_16 {E : AE} {sx : Nat → Int32} {sl i mc ms : Nat} {T K : Nat → Nat → Int32} {os sc : Int32} {tc tp : Nat → Int32} {tl_ tn trd tv tdg tf tla : Int32} {pg ph pc : Nat → Int32} {pm : Int32} {z sa ro te fr to un ga pi be : Nat → Int32} {bm en sta sv ln th : Int32} {hh : Int64} {ov : Nat → Int64} (hi : i + 4 < sl) (hsl : sl < 100000) (hP : PO E M_L_cradle M_X5_cradle [.ref 4096, .int (sx (i + 1)), .int (sx (i + 2)), .ref 20480] [.ref 16384, .int (sx (i + 1)), .int (sx (i + 2))] (ol_ sx sl lsS gsS) (ar T K os sc) (te_ tc tp tl_ tn trd tv tdg tf tla) (pl pg ph pc pm) (mo z sa ro te fr to un ga pi be bm en sta sv ln th hh) ov) (cont : ∀ (th : Int32) (ov : Nat → Int64) (h : AH), INV (ol_ sx sl lsS gsS) th ov h → ∃ h' : AH, AR E M_L_law 13 1822 [some (.ref 0), some (.ref 4096), some (.ref 16384), some (.ref 20480), some (.int (nI (i))), none, none, none, none] [] h (.inl (some (.int (nI 1)))) h' mc ms) : ∃ h' : AH, AR E M_L_law 13 1098 [some (.ref 0), some (.ref 4096), some (.ref 16384), some (.ref 20480), some (.int (nI (i))), none, none, none, none] [] (hp (ol_ sx sl lsS gsS) (ar T K os sc) (te_ tc tp tl_ tn trd tv tdg tf tla) (pl pg ph pc pm) (mo z sa ro te fr to un ga pi be bm en sta sv ln th hh) (ou ov) []) (.inl (some (.int (nI 1)))) h' (mc + 1) (ms + 6) := by
  obtain ⟨k, b, a1, t1, p1, ov1, h2, mc1, ms1, hmc, hms, hL, hM, hI, he⟩ := hP
  obtain ⟨h', hc⟩ := cont k ov1 _ hI
  obtain ⟨T1, K1, os1, sc1, tc1, tp1, tl_1, tn1, trd1, tv1, tdg1, tf1, tla1, pg1, ph1, pc1, pm1, z1, sa1, ro1, te1, fr1, to1, un1, ga1, pi1, be1, bm1, en1, sta1, sv1, ln1, hh1, nv1, nc1, nr1, ne1, a9, b9, q9, rfl, -⟩ := id hI
  have he2 : k = 0 → ov1 0 = b.toInt64 := he
  refine ⟨h', AR.room (show mc1 + mc ≤ mc + 1 by omega) (show ms1 + ms ≤ ms + 6 by omega) ?_⟩
  refine AR.run g_L_law_1098_5 1104 [some (.ref 0), some (.ref 4096), some (.ref 16384), some (.ref 20480), some (.int (nI (i))), none, none, none, none] [.int ((nI (i)) + (nI (1))), .ref 0, .ref 4096] _ [] rfl trivial ?_
  refine AR.ald (n := 0) (e := (i + 1)) ok_L_law_1104 (by first | rfl | (simp only [nI_add, pk_mul]; first | done | rfl)) rfl (by omega) (by first | decide | omega) ?_
  refine AR.run g_L_law_1105_4 1110 [some (.ref 0), some (.ref 4096), some (.ref 16384), some (.ref 20480), some (.int (nI (i))), none, none, none, none] [.int ((nI (i)) + (nI (2))), .ref 0, .int (sx (i + 1)), .ref 4096] _ [] rfl trivial ?_
  refine AR.ald (n := 0) (e := (i + 2)) ok_L_law_1110 (by first | rfl | (simp only [nI_add, pk_mul]; first | done | rfl)) rfl (by omega) (by first | decide | omega) ?_
  refine AR.run g_L_law_1111_1 1112 [some (.ref 0), some (.ref 4096), some (.ref 16384), some (.ref 20480), some (.int (nI (i))), none, none, none, none] [.ref 20480, .int (sx (i + 2)), .int (sx (i + 1)), .ref 4096] _ [] rfl trivial ?_
  refine AR.callS (r := some (.int k)) (av := [.ref 4096, .int (sx (i + 1)), .int (sx (i + 2)), .ref 20480]) (rest := []) lk_L_156 dc_L_law_1112 hL (by first | rfl | (simp only [nI_add, pk_mul]; first | done | rfl)) rfl ?_
  refine AR.cast (st' := [.int (k)]) rfl rfl rfl ?_
  refine AR.run g_L_law_1115_6 1123 [some (.ref 0), some (.ref 4096), some (.ref 16384), some (.ref 20480), some (.int (nI (i))), some (.int (k)), none, none, none] [.int ((nI (i)) + (nI (1))), .ref 0, .ref 16384] _ [] rfl trivial ?_
  refine AR.ald (n := 0) (e := (i + 1)) ok_L_law_1123 (by first | rfl | (simp only [nI_add, pk_mul]; first | done | rfl)) rfl (by omega) (by first | decide | omega) ?_
  refine AR.run g_L_law_1124_4 1129 [some (.ref 0), some (.ref 4096), some (.ref 16384), some (.ref 20480), some (.int (nI (i))), some (.int (k)), none, none, none] [.int ((nI (i)) + (nI (2))), .ref 0, .int (sx (i + 1)), .ref 16384] _ [] rfl trivial ?_
  refine AR.ald (n := 0) (e := (i + 2)) ok_L_law_1129 (by first | rfl | (simp only [nI_add, pk_mul]; first | done | rfl)) rfl (by omega) (by first | decide | omega) ?_
  refine AR.callV1 (16384) [.int (sx (i + 1)), .int (sx (i + 2))] [] lk_L_158 dc_L_law_1130 rfl rfl hM (by first | rfl | (simp only [nI_add, pk_mul]; first | done | rfl)) rfl ?_
  refine AR.run g_L_law_1133_2 1136 [some (.ref 0), some (.ref 4096), some (.ref 16384), some (.ref 20480), some (.int (nI (i))), some (.int (k)), some (.int (b)), none, none] [.ref 16384] _ [] rfl trivial ?_
  refine AR.callV1 (16384) [] [] lk_L_102 dc_L_law_1136 rfl rfl (s_thrown _) (by first | rfl | (simp only [nI_add, pk_mul]; first | done | rfl)) rfl ?_
  refine AR.run g_L_law_1139_1 1141 [some (.ref 0), some (.ref 4096), some (.ref 16384), some (.ref 20480), some (.int (nI (i))), some (.int (k)), some (.int (b)), none, none] [.int (k), .int (k)] _ [] rfl trivial ?_
  refine AR.eq2 (tgt := 1146) dc_L_law_1141 (by decide) (fun c1141_1 => ?_) (fun c1141_1 => absurd c1141_1 (fun q => q rfl))
  refine AR.run g_L_law_1146_1 1148 [some (.ref 0), some (.ref 4096), some (.ref 16384), some (.ref 20480), some (.int (nI (i))), some (.int (k)), some (.int (b)), none, none] [.int (k)] _ [] rfl trivial ?_
  refine AR.ne (tgt := 1163) dc_L_law_1148 (by decide) (fun c1148_2 => ?_) (fun c1148_2 => ?_)
  · refine AR.run g_L_law_1163_1 1822 [some (.ref 0), some (.ref 4096), some (.ref 16384), some (.ref 20480), some (.int (nI (i))), some (.int (k)), some (.int (b)), none, none] [] _ [] rfl trivial ?_
    refine AR.drop (L' := [some (.ref 0), some (.ref 4096), some (.ref 16384), some (.ref 20480), some (.int (nI (i))), none, none, none, none]) ⟨rfl, rfl, rfl, rfl, rfl, trivial⟩ ?_
    exact hc
  · refine AR.run g_L_law_1151_2 1153 [some (.ref 0), some (.ref 4096), some (.ref 16384), some (.ref 20480), some (.int (nI (i))), some (.int (k)), some (.int (b)), none, none] [.int (nI (0)), .ref 20480] _ [] rfl trivial ?_
    refine AR.lald (n := 0) (e := 0) ok_L_law_1153 (by first | rfl | (simp only [nI_add, pk_mul]; first | done | rfl)) rfl (by omega) (by decide) ?_
    refine AR.run g_L_law_1154_3 1158 [some (.ref 0), some (.ref 4096), some (.ref 16384), some (.ref 20480), some (.int (nI (i))), some (.int (k)), some (.int (b)), none, none] [.int (lg_cmp (ov1 0) (b.toInt64))] _ [] rfl trivial ?_
    refine AR.eq (tgt := 1163) dc_L_law_1158 (by decide) (fun c1158_3 => ?_) (fun c1158_3 => absurd c1158_3 (fun q9 => q9 (lcmp_eq (he2 (by assumption)))))
    refine AR.run g_L_law_1163_1 1822 [some (.ref 0), some (.ref 4096), some (.ref 16384), some (.ref 20480), some (.int (nI (i))), some (.int (k)), some (.int (b)), none, none] [] _ [] rfl trivial ?_
    refine AR.drop (L' := [some (.ref 0), some (.ref 4096), some (.ref 16384), some (.ref 20480), some (.int (nI (i))), none, none, none, none]) ⟨rfl, rfl, rfl, rfl, rfl, trivial⟩ ?_
    exact hc
theorem g_L_law_1166_5 : ab_oks M_L_law [(1166, .aload_n 1, 1, 1, 0, 0, .null), (1167, .aload_n 0, 1, 0, 0, 0, .null), (1168, .iload 4, 2, 4, 0, 0, .null), (1170, .iconst 1, 1, 0, 0, 0, .int (nI (1))), (1171, .iadd, 1, 0, 0, 0, .null)] = true := by decide +kernel
theorem ok_L_law_1172 : ab_ok M_L_law (1172, .iaload, 1, 0, 0, 0, .null) = true := by decide +kernel
theorem g_L_law_1173_4 : ab_oks M_L_law [(1173, .aload_n 0, 1, 0, 0, 0, .null), (1174, .iload 4, 2, 4, 0, 0, .null), (1176, .iconst 2, 1, 0, 0, 0, .int (nI (2))), (1177, .iadd, 1, 0, 0, 0, .null)] = true := by decide +kernel
theorem ok_L_law_1178 : ab_ok M_L_law (1178, .iaload, 1, 0, 0, 0, .null) = true := by decide +kernel
theorem g_L_law_1179_1 : ab_oks M_L_law [(1179, .aload_n 3, 1, 3, 0, 0, .null)] = true := by decide +kernel
theorem lk_L_159 : ab_lkS "LeafCradlesLaw" 159 M_L_carrier 4 [862, 863, 90, 864] = true := by decide +kernel
theorem dc_L_law_1180 : decode (AM.bytes M_L_law) 1180 = .ok (.invokestatic 159, 3) := by decide +kernel
theorem g_L_law_1183_6 : ab_oks M_L_law [(1183, .istore 5, 2, 5, 0, 0, .null), (1185, .aload_n 2, 1, 2, 0, 0, .null), (1186, .aload_n 0, 1, 0, 0, 0, .null), (1187, .iload 4, 2, 4, 0, 0, .null), (1189, .iconst 1, 1, 0, 0, 0, .int (nI (1))), (1190, .iadd, 1, 0, 0, 0, .null)] = true := by decide +kernel
theorem ok_L_law_1191 : ab_ok M_L_law (1191, .iaload, 1, 0, 0, 0, .null) = true := by decide +kernel
theorem g_L_law_1192_4 : ab_oks M_L_law [(1192, .aload_n 0, 1, 0, 0, 0, .null), (1193, .iload 4, 2, 4, 0, 0, .null), (1195, .iconst 2, 1, 0, 0, 0, .int (nI (2))), (1196, .iadd, 1, 0, 0, 0, .null)] = true := by decide +kernel
theorem ok_L_law_1197 : ab_ok M_L_law (1197, .iaload, 1, 0, 0, 0, .null) = true := by decide +kernel
theorem lk_L_161 : ab_lkV "LeafCradlesLaw" 161 M_X5_carrier 2 [1199, 1200, 1201, 97, 1202] = true := by decide +kernel
theorem dc_L_law_1198 : decode (AM.bytes M_L_law) 1198 = .ok (.invokevirtual 161, 3) := by decide +kernel
theorem g_L_law_1201_2 : ab_oks M_L_law [(1201, .istore 6, 2, 6, 0, 0, .null), (1203, .aload_n 2, 1, 2, 0, 0, .null)] = true := by decide +kernel
theorem dc_L_law_1204 : decode (AM.bytes M_L_law) 1204 = .ok (.invokevirtual 102, 3) := by decide +kernel
theorem g_L_law_1207_1 : ab_oks M_L_law [(1207, .iload 5, 2, 5, 0, 0, .null)] = true := by decide +kernel
theorem dc_L_law_1209 : decode (AM.bytes M_L_law) 1209 = .ok (.if_icmp .eq 5, 3) := by decide +kernel
theorem g_L_law_1214_1 : ab_oks M_L_law [(1214, .iload 5, 2, 5, 0, 0, .null)] = true := by decide +kernel
theorem dc_L_law_1216 : decode (AM.bytes M_L_law) 1216 = .ok (.ifCond .ne 15, 3) := by decide +kernel
theorem g_L_law_1231_1 : ab_oks M_L_law [(1231, .goto 591, 3, 1822, 0, 0, .null)] = true := by decide +kernel
theorem g_L_law_1219_2 : ab_oks M_L_law [(1219, .aload_n 3, 1, 3, 0, 0, .null), (1220, .iconst 0, 1, 0, 0, 0, .int (nI (0)))] = true := by decide +kernel
theorem ok_L_law_1221 : ab_ok M_L_law (1221, .laload, 1, 0, 0, 0, .null) = true := by decide +kernel
theorem g_L_law_1222_3 : ab_oks M_L_law [(1222, .iload 6, 2, 6, 0, 0, .null), (1224, .i2l, 1, 0, 0, 0, .null), (1225, .lcmp, 1, 0, 0, 0, .null)] = true := by decide +kernel
theorem dc_L_law_1226 : decode (AM.bytes M_L_law) 1226 = .ok (.ifCond .eq 5, 3) := by decide +kernel
set_option maxRecDepth 100000 in
set_option maxHeartbeats 4000000 in
theorem la_17 {E : AE} {sx : Nat → Int32} {sl i mc ms : Nat} {T K : Nat → Nat → Int32} {os sc : Int32} {tc tp : Nat → Int32} {tl_ tn trd tv tdg tf tla : Int32} {pg ph pc : Nat → Int32} {pm : Int32} {z sa ro te fr to un ga pi be : Nat → Int32} {bm en sta sv ln th : Int32} {hh : Int64} {ov : Nat → Int64} (hi : i + 4 < sl) (hsl : sl < 100000) (hP : PO E M_L_carrier M_X5_carrier [.ref 4096, .int (sx (i + 1)), .int (sx (i + 2)), .ref 20480] [.ref 16384, .int (sx (i + 1)), .int (sx (i + 2))] (ol_ sx sl lsS gsS) (ar T K os sc) (te_ tc tp tl_ tn trd tv tdg tf tla) (pl pg ph pc pm) (mo z sa ro te fr to un ga pi be bm en sta sv ln th hh) ov) (cont : ∀ (th : Int32) (ov : Nat → Int64) (h : AH), INV (ol_ sx sl lsS gsS) th ov h → ∃ h' : AH, AR E M_L_law 13 1822 [some (.ref 0), some (.ref 4096), some (.ref 16384), some (.ref 20480), some (.int (nI (i))), none, none, none, none] [] h (.inl (some (.int (nI 1)))) h' mc ms) : ∃ h' : AH, AR E M_L_law 13 1166 [some (.ref 0), some (.ref 4096), some (.ref 16384), some (.ref 20480), some (.int (nI (i))), none, none, none, none] [] (hp (ol_ sx sl lsS gsS) (ar T K os sc) (te_ tc tp tl_ tn trd tv tdg tf tla) (pl pg ph pc pm) (mo z sa ro te fr to un ga pi be bm en sta sv ln th hh) (ou ov) []) (.inl (some (.int (nI 1)))) h' (mc + 1) (ms + 6) := by
  obtain ⟨k, b, a1, t1, p1, ov1, h2, mc1, ms1, hmc, hms, hL, hM, hI, he⟩ := hP
  obtain ⟨h', hc⟩ := cont k ov1 _ hI
  obtain ⟨T1, K1, os1, sc1, tc1, tp1, tl_1, tn1, trd1, tv1, tdg1, tf1, tla1, pg1, ph1, pc1, pm1, z1, sa1, ro1, te1, fr1, to1, un1, ga1, pi1, be1, bm1, en1, sta1, sv1, ln1, hh1, nv1, nc1, nr1, ne1, a9, b9, q9, rfl, -⟩ := id hI
  have he2 : k = 0 → ov1 0 = b.toInt64 := he
  refine ⟨h', AR.room (show mc1 + mc ≤ mc + 1 by omega) (show ms1 + ms ≤ ms + 6 by omega) ?_⟩
  refine AR.run g_L_law_1166_5 1172 [some (.ref 0), some (.ref 4096), some (.ref 16384), some (.ref 20480), some (.int (nI (i))), none, none, none, none] [.int ((nI (i)) + (nI (1))), .ref 0, .ref 4096] _ [] rfl trivial ?_
  refine AR.ald (n := 0) (e := (i + 1)) ok_L_law_1172 (by first | rfl | (simp only [nI_add, pk_mul]; first | done | rfl)) rfl (by omega) (by first | decide | omega) ?_
  refine AR.run g_L_law_1173_4 1178 [some (.ref 0), some (.ref 4096), some (.ref 16384), some (.ref 20480), some (.int (nI (i))), none, none, none, none] [.int ((nI (i)) + (nI (2))), .ref 0, .int (sx (i + 1)), .ref 4096] _ [] rfl trivial ?_
  refine AR.ald (n := 0) (e := (i + 2)) ok_L_law_1178 (by first | rfl | (simp only [nI_add, pk_mul]; first | done | rfl)) rfl (by omega) (by first | decide | omega) ?_
  refine AR.run g_L_law_1179_1 1180 [some (.ref 0), some (.ref 4096), some (.ref 16384), some (.ref 20480), some (.int (nI (i))), none, none, none, none] [.ref 20480, .int (sx (i + 2)), .int (sx (i + 1)), .ref 4096] _ [] rfl trivial ?_
  refine AR.callS (r := some (.int k)) (av := [.ref 4096, .int (sx (i + 1)), .int (sx (i + 2)), .ref 20480]) (rest := []) lk_L_159 dc_L_law_1180 hL (by first | rfl | (simp only [nI_add, pk_mul]; first | done | rfl)) rfl ?_
  refine AR.cast (st' := [.int (k)]) rfl rfl rfl ?_
  refine AR.run g_L_law_1183_6 1191 [some (.ref 0), some (.ref 4096), some (.ref 16384), some (.ref 20480), some (.int (nI (i))), some (.int (k)), none, none, none] [.int ((nI (i)) + (nI (1))), .ref 0, .ref 16384] _ [] rfl trivial ?_
  refine AR.ald (n := 0) (e := (i + 1)) ok_L_law_1191 (by first | rfl | (simp only [nI_add, pk_mul]; first | done | rfl)) rfl (by omega) (by first | decide | omega) ?_
  refine AR.run g_L_law_1192_4 1197 [some (.ref 0), some (.ref 4096), some (.ref 16384), some (.ref 20480), some (.int (nI (i))), some (.int (k)), none, none, none] [.int ((nI (i)) + (nI (2))), .ref 0, .int (sx (i + 1)), .ref 16384] _ [] rfl trivial ?_
  refine AR.ald (n := 0) (e := (i + 2)) ok_L_law_1197 (by first | rfl | (simp only [nI_add, pk_mul]; first | done | rfl)) rfl (by omega) (by first | decide | omega) ?_
  refine AR.callV1 (16384) [.int (sx (i + 1)), .int (sx (i + 2))] [] lk_L_161 dc_L_law_1198 rfl rfl hM (by first | rfl | (simp only [nI_add, pk_mul]; first | done | rfl)) rfl ?_
  refine AR.run g_L_law_1201_2 1204 [some (.ref 0), some (.ref 4096), some (.ref 16384), some (.ref 20480), some (.int (nI (i))), some (.int (k)), some (.int (b)), none, none] [.ref 16384] _ [] rfl trivial ?_
  refine AR.callV1 (16384) [] [] lk_L_102 dc_L_law_1204 rfl rfl (s_thrown _) (by first | rfl | (simp only [nI_add, pk_mul]; first | done | rfl)) rfl ?_
  refine AR.run g_L_law_1207_1 1209 [some (.ref 0), some (.ref 4096), some (.ref 16384), some (.ref 20480), some (.int (nI (i))), some (.int (k)), some (.int (b)), none, none] [.int (k), .int (k)] _ [] rfl trivial ?_
  refine AR.eq2 (tgt := 1214) dc_L_law_1209 (by decide) (fun c1209_1 => ?_) (fun c1209_1 => absurd c1209_1 (fun q => q rfl))
  refine AR.run g_L_law_1214_1 1216 [some (.ref 0), some (.ref 4096), some (.ref 16384), some (.ref 20480), some (.int (nI (i))), some (.int (k)), some (.int (b)), none, none] [.int (k)] _ [] rfl trivial ?_
  refine AR.ne (tgt := 1231) dc_L_law_1216 (by decide) (fun c1216_2 => ?_) (fun c1216_2 => ?_)
  · refine AR.run g_L_law_1231_1 1822 [some (.ref 0), some (.ref 4096), some (.ref 16384), some (.ref 20480), some (.int (nI (i))), some (.int (k)), some (.int (b)), none, none] [] _ [] rfl trivial ?_
    refine AR.drop (L' := [some (.ref 0), some (.ref 4096), some (.ref 16384), some (.ref 20480), some (.int (nI (i))), none, none, none, none]) ⟨rfl, rfl, rfl, rfl, rfl, trivial⟩ ?_
    exact hc
  · refine AR.run g_L_law_1219_2 1221 [some (.ref 0), some (.ref 4096), some (.ref 16384), some (.ref 20480), some (.int (nI (i))), some (.int (k)), some (.int (b)), none, none] [.int (nI (0)), .ref 20480] _ [] rfl trivial ?_
    refine AR.lald (n := 0) (e := 0) ok_L_law_1221 (by first | rfl | (simp only [nI_add, pk_mul]; first | done | rfl)) rfl (by omega) (by decide) ?_
    refine AR.run g_L_law_1222_3 1226 [some (.ref 0), some (.ref 4096), some (.ref 16384), some (.ref 20480), some (.int (nI (i))), some (.int (k)), some (.int (b)), none, none] [.int (lg_cmp (ov1 0) (b.toInt64))] _ [] rfl trivial ?_
    refine AR.eq (tgt := 1231) dc_L_law_1226 (by decide) (fun c1226_3 => ?_) (fun c1226_3 => absurd c1226_3 (fun q9 => q9 (lcmp_eq (he2 (by assumption)))))
    refine AR.run g_L_law_1231_1 1822 [some (.ref 0), some (.ref 4096), some (.ref 16384), some (.ref 20480), some (.int (nI (i))), some (.int (k)), some (.int (b)), none, none] [] _ [] rfl trivial ?_
    refine AR.drop (L' := [some (.ref 0), some (.ref 4096), some (.ref 16384), some (.ref 20480), some (.int (nI (i))), none, none, none, none]) ⟨rfl, rfl, rfl, rfl, rfl, trivial⟩ ?_
    exact hc
theorem g_L_law_1234_5 : ab_oks M_L_law [(1234, .aload_n 1, 1, 1, 0, 0, .null), (1235, .aload_n 0, 1, 0, 0, 0, .null), (1236, .iload 4, 2, 4, 0, 0, .null), (1238, .iconst 1, 1, 0, 0, 0, .int (nI (1))), (1239, .iadd, 1, 0, 0, 0, .null)] = true := by decide +kernel
theorem ok_L_law_1240 : ab_ok M_L_law (1240, .iaload, 1, 0, 0, 0, .null) = true := by decide +kernel
theorem g_L_law_1241_4 : ab_oks M_L_law [(1241, .aload_n 0, 1, 0, 0, 0, .null), (1242, .iload 4, 2, 4, 0, 0, .null), (1244, .iconst 2, 1, 0, 0, 0, .int (nI (2))), (1245, .iadd, 1, 0, 0, 0, .null)] = true := by decide +kernel
theorem ok_L_law_1246 : ab_ok M_L_law (1246, .iaload, 1, 0, 0, 0, .null) = true := by decide +kernel
theorem g_L_law_1247_1 : ab_oks M_L_law [(1247, .aload_n 3, 1, 3, 0, 0, .null)] = true := by decide +kernel
theorem lk_L_162 : ab_lkS "LeafCradlesLaw" 162 M_L_log 4 [869, 870, 90, 871] = true := by decide +kernel
theorem dc_L_law_1248 : decode (AM.bytes M_L_law) 1248 = .ok (.invokestatic 162, 3) := by decide +kernel
theorem g_L_law_1251_6 : ab_oks M_L_law [(1251, .istore 5, 2, 5, 0, 0, .null), (1253, .aload_n 2, 1, 2, 0, 0, .null), (1254, .aload_n 0, 1, 0, 0, 0, .null), (1255, .iload 4, 2, 4, 0, 0, .null), (1257, .iconst 1, 1, 0, 0, 0, .int (nI (1))), (1258, .iadd, 1, 0, 0, 0, .null)] = true := by decide +kernel
theorem ok_L_law_1259 : ab_ok M_L_law (1259, .iaload, 1, 0, 0, 0, .null) = true := by decide +kernel
theorem g_L_law_1260_4 : ab_oks M_L_law [(1260, .aload_n 0, 1, 0, 0, 0, .null), (1261, .iload 4, 2, 4, 0, 0, .null), (1263, .iconst 2, 1, 0, 0, 0, .int (nI (2))), (1264, .iadd, 1, 0, 0, 0, .null)] = true := by decide +kernel
theorem ok_L_law_1265 : ab_ok M_L_law (1265, .iaload, 1, 0, 0, 0, .null) = true := by decide +kernel
theorem lk_L_164 : ab_lkV "LeafCradlesLaw" 164 M_X5_log 2 [1203, 1204, 1205, 97, 1206] = true := by decide +kernel
theorem dc_L_law_1266 : decode (AM.bytes M_L_law) 1266 = .ok (.invokevirtual 164, 3) := by decide +kernel
theorem g_L_law_1269_2 : ab_oks M_L_law [(1269, .istore 6, 2, 6, 0, 0, .null), (1271, .aload_n 2, 1, 2, 0, 0, .null)] = true := by decide +kernel
theorem dc_L_law_1272 : decode (AM.bytes M_L_law) 1272 = .ok (.invokevirtual 102, 3) := by decide +kernel
theorem g_L_law_1275_1 : ab_oks M_L_law [(1275, .iload 5, 2, 5, 0, 0, .null)] = true := by decide +kernel
theorem dc_L_law_1277 : decode (AM.bytes M_L_law) 1277 = .ok (.if_icmp .eq 5, 3) := by decide +kernel
theorem g_L_law_1282_1 : ab_oks M_L_law [(1282, .iload 5, 2, 5, 0, 0, .null)] = true := by decide +kernel
theorem dc_L_law_1284 : decode (AM.bytes M_L_law) 1284 = .ok (.ifCond .ne 15, 3) := by decide +kernel
theorem g_L_law_1299_1 : ab_oks M_L_law [(1299, .goto 523, 3, 1822, 0, 0, .null)] = true := by decide +kernel
theorem g_L_law_1287_2 : ab_oks M_L_law [(1287, .aload_n 3, 1, 3, 0, 0, .null), (1288, .iconst 0, 1, 0, 0, 0, .int (nI (0)))] = true := by decide +kernel
theorem ok_L_law_1289 : ab_ok M_L_law (1289, .laload, 1, 0, 0, 0, .null) = true := by decide +kernel
theorem g_L_law_1290_3 : ab_oks M_L_law [(1290, .iload 6, 2, 6, 0, 0, .null), (1292, .i2l, 1, 0, 0, 0, .null), (1293, .lcmp, 1, 0, 0, 0, .null)] = true := by decide +kernel
theorem dc_L_law_1294 : decode (AM.bytes M_L_law) 1294 = .ok (.ifCond .eq 5, 3) := by decide +kernel
set_option maxRecDepth 100000 in
set_option maxHeartbeats 4000000 in
theorem la_18 {E : AE} {sx : Nat → Int32} {sl i mc ms : Nat} {T K : Nat → Nat → Int32} {os sc : Int32} {tc tp : Nat → Int32} {tl_ tn trd tv tdg tf tla : Int32} {pg ph pc : Nat → Int32} {pm : Int32} {z sa ro te fr to un ga pi be : Nat → Int32} {bm en sta sv ln th : Int32} {hh : Int64} {ov : Nat → Int64} (hi : i + 4 < sl) (hsl : sl < 100000) (hP : PO E M_L_log M_X5_log [.ref 4096, .int (sx (i + 1)), .int (sx (i + 2)), .ref 20480] [.ref 16384, .int (sx (i + 1)), .int (sx (i + 2))] (ol_ sx sl lsS gsS) (ar T K os sc) (te_ tc tp tl_ tn trd tv tdg tf tla) (pl pg ph pc pm) (mo z sa ro te fr to un ga pi be bm en sta sv ln th hh) ov) (cont : ∀ (th : Int32) (ov : Nat → Int64) (h : AH), INV (ol_ sx sl lsS gsS) th ov h → ∃ h' : AH, AR E M_L_law 13 1822 [some (.ref 0), some (.ref 4096), some (.ref 16384), some (.ref 20480), some (.int (nI (i))), none, none, none, none] [] h (.inl (some (.int (nI 1)))) h' mc ms) : ∃ h' : AH, AR E M_L_law 13 1234 [some (.ref 0), some (.ref 4096), some (.ref 16384), some (.ref 20480), some (.int (nI (i))), none, none, none, none] [] (hp (ol_ sx sl lsS gsS) (ar T K os sc) (te_ tc tp tl_ tn trd tv tdg tf tla) (pl pg ph pc pm) (mo z sa ro te fr to un ga pi be bm en sta sv ln th hh) (ou ov) []) (.inl (some (.int (nI 1)))) h' (mc + 1) (ms + 6) := by
  obtain ⟨k, b, a1, t1, p1, ov1, h2, mc1, ms1, hmc, hms, hL, hM, hI, he⟩ := hP
  obtain ⟨h', hc⟩ := cont k ov1 _ hI
  obtain ⟨T1, K1, os1, sc1, tc1, tp1, tl_1, tn1, trd1, tv1, tdg1, tf1, tla1, pg1, ph1, pc1, pm1, z1, sa1, ro1, te1, fr1, to1, un1, ga1, pi1, be1, bm1, en1, sta1, sv1, ln1, hh1, nv1, nc1, nr1, ne1, a9, b9, q9, rfl, -⟩ := id hI
  have he2 : k = 0 → ov1 0 = b.toInt64 := he
  refine ⟨h', AR.room (show mc1 + mc ≤ mc + 1 by omega) (show ms1 + ms ≤ ms + 6 by omega) ?_⟩
  refine AR.run g_L_law_1234_5 1240 [some (.ref 0), some (.ref 4096), some (.ref 16384), some (.ref 20480), some (.int (nI (i))), none, none, none, none] [.int ((nI (i)) + (nI (1))), .ref 0, .ref 4096] _ [] rfl trivial ?_
  refine AR.ald (n := 0) (e := (i + 1)) ok_L_law_1240 (by first | rfl | (simp only [nI_add, pk_mul]; first | done | rfl)) rfl (by omega) (by first | decide | omega) ?_
  refine AR.run g_L_law_1241_4 1246 [some (.ref 0), some (.ref 4096), some (.ref 16384), some (.ref 20480), some (.int (nI (i))), none, none, none, none] [.int ((nI (i)) + (nI (2))), .ref 0, .int (sx (i + 1)), .ref 4096] _ [] rfl trivial ?_
  refine AR.ald (n := 0) (e := (i + 2)) ok_L_law_1246 (by first | rfl | (simp only [nI_add, pk_mul]; first | done | rfl)) rfl (by omega) (by first | decide | omega) ?_
  refine AR.run g_L_law_1247_1 1248 [some (.ref 0), some (.ref 4096), some (.ref 16384), some (.ref 20480), some (.int (nI (i))), none, none, none, none] [.ref 20480, .int (sx (i + 2)), .int (sx (i + 1)), .ref 4096] _ [] rfl trivial ?_
  refine AR.callS (r := some (.int k)) (av := [.ref 4096, .int (sx (i + 1)), .int (sx (i + 2)), .ref 20480]) (rest := []) lk_L_162 dc_L_law_1248 hL (by first | rfl | (simp only [nI_add, pk_mul]; first | done | rfl)) rfl ?_
  refine AR.cast (st' := [.int (k)]) rfl rfl rfl ?_
  refine AR.run g_L_law_1251_6 1259 [some (.ref 0), some (.ref 4096), some (.ref 16384), some (.ref 20480), some (.int (nI (i))), some (.int (k)), none, none, none] [.int ((nI (i)) + (nI (1))), .ref 0, .ref 16384] _ [] rfl trivial ?_
  refine AR.ald (n := 0) (e := (i + 1)) ok_L_law_1259 (by first | rfl | (simp only [nI_add, pk_mul]; first | done | rfl)) rfl (by omega) (by first | decide | omega) ?_
  refine AR.run g_L_law_1260_4 1265 [some (.ref 0), some (.ref 4096), some (.ref 16384), some (.ref 20480), some (.int (nI (i))), some (.int (k)), none, none, none] [.int ((nI (i)) + (nI (2))), .ref 0, .int (sx (i + 1)), .ref 16384] _ [] rfl trivial ?_
  refine AR.ald (n := 0) (e := (i + 2)) ok_L_law_1265 (by first | rfl | (simp only [nI_add, pk_mul]; first | done | rfl)) rfl (by omega) (by first | decide | omega) ?_
  refine AR.callV1 (16384) [.int (sx (i + 1)), .int (sx (i + 2))] [] lk_L_164 dc_L_law_1266 rfl rfl hM (by first | rfl | (simp only [nI_add, pk_mul]; first | done | rfl)) rfl ?_
  refine AR.run g_L_law_1269_2 1272 [some (.ref 0), some (.ref 4096), some (.ref 16384), some (.ref 20480), some (.int (nI (i))), some (.int (k)), some (.int (b)), none, none] [.ref 16384] _ [] rfl trivial ?_
  refine AR.callV1 (16384) [] [] lk_L_102 dc_L_law_1272 rfl rfl (s_thrown _) (by first | rfl | (simp only [nI_add, pk_mul]; first | done | rfl)) rfl ?_
  refine AR.run g_L_law_1275_1 1277 [some (.ref 0), some (.ref 4096), some (.ref 16384), some (.ref 20480), some (.int (nI (i))), some (.int (k)), some (.int (b)), none, none] [.int (k), .int (k)] _ [] rfl trivial ?_
  refine AR.eq2 (tgt := 1282) dc_L_law_1277 (by decide) (fun c1277_1 => ?_) (fun c1277_1 => absurd c1277_1 (fun q => q rfl))
  refine AR.run g_L_law_1282_1 1284 [some (.ref 0), some (.ref 4096), some (.ref 16384), some (.ref 20480), some (.int (nI (i))), some (.int (k)), some (.int (b)), none, none] [.int (k)] _ [] rfl trivial ?_
  refine AR.ne (tgt := 1299) dc_L_law_1284 (by decide) (fun c1284_2 => ?_) (fun c1284_2 => ?_)
  · refine AR.run g_L_law_1299_1 1822 [some (.ref 0), some (.ref 4096), some (.ref 16384), some (.ref 20480), some (.int (nI (i))), some (.int (k)), some (.int (b)), none, none] [] _ [] rfl trivial ?_
    refine AR.drop (L' := [some (.ref 0), some (.ref 4096), some (.ref 16384), some (.ref 20480), some (.int (nI (i))), none, none, none, none]) ⟨rfl, rfl, rfl, rfl, rfl, trivial⟩ ?_
    exact hc
  · refine AR.run g_L_law_1287_2 1289 [some (.ref 0), some (.ref 4096), some (.ref 16384), some (.ref 20480), some (.int (nI (i))), some (.int (k)), some (.int (b)), none, none] [.int (nI (0)), .ref 20480] _ [] rfl trivial ?_
    refine AR.lald (n := 0) (e := 0) ok_L_law_1289 (by first | rfl | (simp only [nI_add, pk_mul]; first | done | rfl)) rfl (by omega) (by decide) ?_
    refine AR.run g_L_law_1290_3 1294 [some (.ref 0), some (.ref 4096), some (.ref 16384), some (.ref 20480), some (.int (nI (i))), some (.int (k)), some (.int (b)), none, none] [.int (lg_cmp (ov1 0) (b.toInt64))] _ [] rfl trivial ?_
    refine AR.eq (tgt := 1299) dc_L_law_1294 (by decide) (fun c1294_3 => ?_) (fun c1294_3 => absurd c1294_3 (fun q9 => q9 (lcmp_eq (he2 (by assumption)))))
    refine AR.run g_L_law_1299_1 1822 [some (.ref 0), some (.ref 4096), some (.ref 16384), some (.ref 20480), some (.int (nI (i))), some (.int (k)), some (.int (b)), none, none] [] _ [] rfl trivial ?_
    refine AR.drop (L' := [some (.ref 0), some (.ref 4096), some (.ref 16384), some (.ref 20480), some (.int (nI (i))), none, none, none, none]) ⟨rfl, rfl, rfl, rfl, rfl, trivial⟩ ?_
    exact hc
theorem g_L_law_1302_5 : ab_oks M_L_law [(1302, .aload_n 1, 1, 1, 0, 0, .null), (1303, .aload_n 0, 1, 0, 0, 0, .null), (1304, .iload 4, 2, 4, 0, 0, .null), (1306, .iconst 1, 1, 0, 0, 0, .int (nI (1))), (1307, .iadd, 1, 0, 0, 0, .null)] = true := by decide +kernel
theorem ok_L_law_1308 : ab_ok M_L_law (1308, .iaload, 1, 0, 0, 0, .null) = true := by decide +kernel
theorem g_L_law_1309_4 : ab_oks M_L_law [(1309, .aload_n 0, 1, 0, 0, 0, .null), (1310, .iload 4, 2, 4, 0, 0, .null), (1312, .iconst 2, 1, 0, 0, 0, .int (nI (2))), (1313, .iadd, 1, 0, 0, 0, .null)] = true := by decide +kernel
theorem ok_L_law_1314 : ab_ok M_L_law (1314, .iaload, 1, 0, 0, 0, .null) = true := by decide +kernel
theorem g_L_law_1315_1 : ab_oks M_L_law [(1315, .aload_n 3, 1, 3, 0, 0, .null)] = true := by decide +kernel
theorem lk_L_165 : ab_lkS "LeafCradlesLaw" 165 M_L_whereAt 4 [876, 877, 90, 878] = true := by decide +kernel
theorem dc_L_law_1316 : decode (AM.bytes M_L_law) 1316 = .ok (.invokestatic 165, 3) := by decide +kernel
theorem g_L_law_1319_6 : ab_oks M_L_law [(1319, .istore 5, 2, 5, 0, 0, .null), (1321, .aload_n 2, 1, 2, 0, 0, .null), (1322, .aload_n 0, 1, 0, 0, 0, .null), (1323, .iload 4, 2, 4, 0, 0, .null), (1325, .iconst 1, 1, 0, 0, 0, .int (nI (1))), (1326, .iadd, 1, 0, 0, 0, .null)] = true := by decide +kernel
theorem ok_L_law_1327 : ab_ok M_L_law (1327, .iaload, 1, 0, 0, 0, .null) = true := by decide +kernel
theorem g_L_law_1328_4 : ab_oks M_L_law [(1328, .aload_n 0, 1, 0, 0, 0, .null), (1329, .iload 4, 2, 4, 0, 0, .null), (1331, .iconst 2, 1, 0, 0, 0, .int (nI (2))), (1332, .iadd, 1, 0, 0, 0, .null)] = true := by decide +kernel
theorem ok_L_law_1333 : ab_ok M_L_law (1333, .iaload, 1, 0, 0, 0, .null) = true := by decide +kernel
theorem lk_L_167 : ab_lkV "LeafCradlesLaw" 167 M_X5_whereAt 2 [1207, 1208, 1209, 97, 1210] = true := by decide +kernel
theorem dc_L_law_1334 : decode (AM.bytes M_L_law) 1334 = .ok (.invokevirtual 167, 3) := by decide +kernel
theorem g_L_law_1337_2 : ab_oks M_L_law [(1337, .istore 6, 2, 6, 0, 0, .null), (1339, .aload_n 2, 1, 2, 0, 0, .null)] = true := by decide +kernel
theorem dc_L_law_1340 : decode (AM.bytes M_L_law) 1340 = .ok (.invokevirtual 102, 3) := by decide +kernel
theorem g_L_law_1343_1 : ab_oks M_L_law [(1343, .iload 5, 2, 5, 0, 0, .null)] = true := by decide +kernel
theorem dc_L_law_1345 : decode (AM.bytes M_L_law) 1345 = .ok (.if_icmp .eq 5, 3) := by decide +kernel
theorem g_L_law_1350_1 : ab_oks M_L_law [(1350, .iload 5, 2, 5, 0, 0, .null)] = true := by decide +kernel
theorem dc_L_law_1352 : decode (AM.bytes M_L_law) 1352 = .ok (.ifCond .ne 15, 3) := by decide +kernel
theorem g_L_law_1367_1 : ab_oks M_L_law [(1367, .goto 455, 3, 1822, 0, 0, .null)] = true := by decide +kernel
theorem g_L_law_1355_2 : ab_oks M_L_law [(1355, .aload_n 3, 1, 3, 0, 0, .null), (1356, .iconst 0, 1, 0, 0, 0, .int (nI (0)))] = true := by decide +kernel
theorem ok_L_law_1357 : ab_ok M_L_law (1357, .laload, 1, 0, 0, 0, .null) = true := by decide +kernel
theorem g_L_law_1358_3 : ab_oks M_L_law [(1358, .iload 6, 2, 6, 0, 0, .null), (1360, .i2l, 1, 0, 0, 0, .null), (1361, .lcmp, 1, 0, 0, 0, .null)] = true := by decide +kernel
theorem dc_L_law_1362 : decode (AM.bytes M_L_law) 1362 = .ok (.ifCond .eq 5, 3) := by decide +kernel
set_option maxRecDepth 100000 in
set_option maxHeartbeats 4000000 in
theorem la_19 {E : AE} {sx : Nat → Int32} {sl i mc ms : Nat} {T K : Nat → Nat → Int32} {os sc : Int32} {tc tp : Nat → Int32} {tl_ tn trd tv tdg tf tla : Int32} {pg ph pc : Nat → Int32} {pm : Int32} {z sa ro te fr to un ga pi be : Nat → Int32} {bm en sta sv ln th : Int32} {hh : Int64} {ov : Nat → Int64} (hi : i + 4 < sl) (hsl : sl < 100000) (hP : PO E M_L_whereAt M_X5_whereAt [.ref 4096, .int (sx (i + 1)), .int (sx (i + 2)), .ref 20480] [.ref 16384, .int (sx (i + 1)), .int (sx (i + 2))] (ol_ sx sl lsS gsS) (ar T K os sc) (te_ tc tp tl_ tn trd tv tdg tf tla) (pl pg ph pc pm) (mo z sa ro te fr to un ga pi be bm en sta sv ln th hh) ov) (cont : ∀ (th : Int32) (ov : Nat → Int64) (h : AH), INV (ol_ sx sl lsS gsS) th ov h → ∃ h' : AH, AR E M_L_law 13 1822 [some (.ref 0), some (.ref 4096), some (.ref 16384), some (.ref 20480), some (.int (nI (i))), none, none, none, none] [] h (.inl (some (.int (nI 1)))) h' mc ms) : ∃ h' : AH, AR E M_L_law 13 1302 [some (.ref 0), some (.ref 4096), some (.ref 16384), some (.ref 20480), some (.int (nI (i))), none, none, none, none] [] (hp (ol_ sx sl lsS gsS) (ar T K os sc) (te_ tc tp tl_ tn trd tv tdg tf tla) (pl pg ph pc pm) (mo z sa ro te fr to un ga pi be bm en sta sv ln th hh) (ou ov) []) (.inl (some (.int (nI 1)))) h' (mc + 1) (ms + 6) := by
  obtain ⟨k, b, a1, t1, p1, ov1, h2, mc1, ms1, hmc, hms, hL, hM, hI, he⟩ := hP
  obtain ⟨h', hc⟩ := cont k ov1 _ hI
  obtain ⟨T1, K1, os1, sc1, tc1, tp1, tl_1, tn1, trd1, tv1, tdg1, tf1, tla1, pg1, ph1, pc1, pm1, z1, sa1, ro1, te1, fr1, to1, un1, ga1, pi1, be1, bm1, en1, sta1, sv1, ln1, hh1, nv1, nc1, nr1, ne1, a9, b9, q9, rfl, -⟩ := id hI
  have he2 : k = 0 → ov1 0 = b.toInt64 := he
  refine ⟨h', AR.room (show mc1 + mc ≤ mc + 1 by omega) (show ms1 + ms ≤ ms + 6 by omega) ?_⟩
  refine AR.run g_L_law_1302_5 1308 [some (.ref 0), some (.ref 4096), some (.ref 16384), some (.ref 20480), some (.int (nI (i))), none, none, none, none] [.int ((nI (i)) + (nI (1))), .ref 0, .ref 4096] _ [] rfl trivial ?_
  refine AR.ald (n := 0) (e := (i + 1)) ok_L_law_1308 (by first | rfl | (simp only [nI_add, pk_mul]; first | done | rfl)) rfl (by omega) (by first | decide | omega) ?_
  refine AR.run g_L_law_1309_4 1314 [some (.ref 0), some (.ref 4096), some (.ref 16384), some (.ref 20480), some (.int (nI (i))), none, none, none, none] [.int ((nI (i)) + (nI (2))), .ref 0, .int (sx (i + 1)), .ref 4096] _ [] rfl trivial ?_
  refine AR.ald (n := 0) (e := (i + 2)) ok_L_law_1314 (by first | rfl | (simp only [nI_add, pk_mul]; first | done | rfl)) rfl (by omega) (by first | decide | omega) ?_
  refine AR.run g_L_law_1315_1 1316 [some (.ref 0), some (.ref 4096), some (.ref 16384), some (.ref 20480), some (.int (nI (i))), none, none, none, none] [.ref 20480, .int (sx (i + 2)), .int (sx (i + 1)), .ref 4096] _ [] rfl trivial ?_
  refine AR.callS (r := some (.int k)) (av := [.ref 4096, .int (sx (i + 1)), .int (sx (i + 2)), .ref 20480]) (rest := []) lk_L_165 dc_L_law_1316 hL (by first | rfl | (simp only [nI_add, pk_mul]; first | done | rfl)) rfl ?_
  refine AR.cast (st' := [.int (k)]) rfl rfl rfl ?_
  refine AR.run g_L_law_1319_6 1327 [some (.ref 0), some (.ref 4096), some (.ref 16384), some (.ref 20480), some (.int (nI (i))), some (.int (k)), none, none, none] [.int ((nI (i)) + (nI (1))), .ref 0, .ref 16384] _ [] rfl trivial ?_
  refine AR.ald (n := 0) (e := (i + 1)) ok_L_law_1327 (by first | rfl | (simp only [nI_add, pk_mul]; first | done | rfl)) rfl (by omega) (by first | decide | omega) ?_
  refine AR.run g_L_law_1328_4 1333 [some (.ref 0), some (.ref 4096), some (.ref 16384), some (.ref 20480), some (.int (nI (i))), some (.int (k)), none, none, none] [.int ((nI (i)) + (nI (2))), .ref 0, .int (sx (i + 1)), .ref 16384] _ [] rfl trivial ?_
  refine AR.ald (n := 0) (e := (i + 2)) ok_L_law_1333 (by first | rfl | (simp only [nI_add, pk_mul]; first | done | rfl)) rfl (by omega) (by first | decide | omega) ?_
  refine AR.callV1 (16384) [.int (sx (i + 1)), .int (sx (i + 2))] [] lk_L_167 dc_L_law_1334 rfl rfl hM (by first | rfl | (simp only [nI_add, pk_mul]; first | done | rfl)) rfl ?_
  refine AR.run g_L_law_1337_2 1340 [some (.ref 0), some (.ref 4096), some (.ref 16384), some (.ref 20480), some (.int (nI (i))), some (.int (k)), some (.int (b)), none, none] [.ref 16384] _ [] rfl trivial ?_
  refine AR.callV1 (16384) [] [] lk_L_102 dc_L_law_1340 rfl rfl (s_thrown _) (by first | rfl | (simp only [nI_add, pk_mul]; first | done | rfl)) rfl ?_
  refine AR.run g_L_law_1343_1 1345 [some (.ref 0), some (.ref 4096), some (.ref 16384), some (.ref 20480), some (.int (nI (i))), some (.int (k)), some (.int (b)), none, none] [.int (k), .int (k)] _ [] rfl trivial ?_
  refine AR.eq2 (tgt := 1350) dc_L_law_1345 (by decide) (fun c1345_1 => ?_) (fun c1345_1 => absurd c1345_1 (fun q => q rfl))
  refine AR.run g_L_law_1350_1 1352 [some (.ref 0), some (.ref 4096), some (.ref 16384), some (.ref 20480), some (.int (nI (i))), some (.int (k)), some (.int (b)), none, none] [.int (k)] _ [] rfl trivial ?_
  refine AR.ne (tgt := 1367) dc_L_law_1352 (by decide) (fun c1352_2 => ?_) (fun c1352_2 => ?_)
  · refine AR.run g_L_law_1367_1 1822 [some (.ref 0), some (.ref 4096), some (.ref 16384), some (.ref 20480), some (.int (nI (i))), some (.int (k)), some (.int (b)), none, none] [] _ [] rfl trivial ?_
    refine AR.drop (L' := [some (.ref 0), some (.ref 4096), some (.ref 16384), some (.ref 20480), some (.int (nI (i))), none, none, none, none]) ⟨rfl, rfl, rfl, rfl, rfl, trivial⟩ ?_
    exact hc
  · refine AR.run g_L_law_1355_2 1357 [some (.ref 0), some (.ref 4096), some (.ref 16384), some (.ref 20480), some (.int (nI (i))), some (.int (k)), some (.int (b)), none, none] [.int (nI (0)), .ref 20480] _ [] rfl trivial ?_
    refine AR.lald (n := 0) (e := 0) ok_L_law_1357 (by first | rfl | (simp only [nI_add, pk_mul]; first | done | rfl)) rfl (by omega) (by decide) ?_
    refine AR.run g_L_law_1358_3 1362 [some (.ref 0), some (.ref 4096), some (.ref 16384), some (.ref 20480), some (.int (nI (i))), some (.int (k)), some (.int (b)), none, none] [.int (lg_cmp (ov1 0) (b.toInt64))] _ [] rfl trivial ?_
    refine AR.eq (tgt := 1367) dc_L_law_1362 (by decide) (fun c1362_3 => ?_) (fun c1362_3 => absurd c1362_3 (fun q9 => q9 (lcmp_eq (he2 (by assumption)))))
    refine AR.run g_L_law_1367_1 1822 [some (.ref 0), some (.ref 4096), some (.ref 16384), some (.ref 20480), some (.int (nI (i))), some (.int (k)), some (.int (b)), none, none] [] _ [] rfl trivial ?_
    refine AR.drop (L' := [some (.ref 0), some (.ref 4096), some (.ref 16384), some (.ref 20480), some (.int (nI (i))), none, none, none, none]) ⟨rfl, rfl, rfl, rfl, rfl, trivial⟩ ?_
    exact hc
