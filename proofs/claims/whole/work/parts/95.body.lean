theorem lcmp_eq {x y : Int64} (h : x = y) : lg_cmp x y = 0 := by
  subst h
  unfold lg_cmp
  rw [if_neg (show ¬ x > x from Int64.lt_irrefl), if_pos rfl]
theorem g_L_law_168_5 : ab_oks M_L_law [(168, .aload_n 1, 1, 1, 0, 0, .null), (169, .aload_n 0, 1, 0, 0, 0, .null), (170, .iload 4, 2, 4, 0, 0, .null), (172, .iconst 1, 1, 0, 0, 0, .int (nI (1))), (173, .iadd, 1, 0, 0, 0, .null)] = true := by decide +kernel
theorem ok_L_law_174 : ab_ok M_L_law (174, .iaload, 1, 0, 0, 0, .null) = true := by decide +kernel
theorem g_L_law_175_4 : ab_oks M_L_law [(175, .aload_n 0, 1, 0, 0, 0, .null), (176, .iload 4, 2, 4, 0, 0, .null), (178, .iconst 2, 1, 0, 0, 0, .int (nI (2))), (179, .iadd, 1, 0, 0, 0, .null)] = true := by decide +kernel
theorem ok_L_law_180 : ab_ok M_L_law (180, .iaload, 1, 0, 0, 0, .null) = true := by decide +kernel
theorem g_L_law_181_4 : ab_oks M_L_law [(181, .aload_n 0, 1, 0, 0, 0, .null), (182, .iload 4, 2, 4, 0, 0, .null), (184, .iconst 3, 1, 0, 0, 0, .int (nI (3))), (185, .iadd, 1, 0, 0, 0, .null)] = true := by decide +kernel
theorem ok_L_law_186 : ab_ok M_L_law (186, .iaload, 1, 0, 0, 0, .null) = true := by decide +kernel
theorem g_L_law_187_4 : ab_oks M_L_law [(187, .aload_n 0, 1, 0, 0, 0, .null), (188, .iload 4, 2, 4, 0, 0, .null), (190, .iconst 4, 1, 0, 0, 0, .int (nI (4))), (191, .iadd, 1, 0, 0, 0, .null)] = true := by decide +kernel
theorem ok_L_law_192 : ab_ok M_L_law (192, .iaload, 1, 0, 0, 0, .null) = true := by decide +kernel
theorem g_L_law_193_1 : ab_oks M_L_law [(193, .aload_n 3, 1, 3, 0, 0, .null)] = true := by decide +kernel
theorem lk_L_96 : ab_lkS "LeafCradlesLaw" 96 M_L_addVolume 6 [520, 521, 90, 522] = true := by decide +kernel
theorem dc_L_law_194 : decode (AM.bytes M_L_law) 194 = .ok (.invokestatic 96, 3) := by decide +kernel
theorem g_L_law_197_6 : ab_oks M_L_law [(197, .istore 5, 2, 5, 0, 0, .null), (199, .aload_n 2, 1, 2, 0, 0, .null), (200, .aload_n 0, 1, 0, 0, 0, .null), (201, .iload 4, 2, 4, 0, 0, .null), (203, .iconst 1, 1, 0, 0, 0, .int (nI (1))), (204, .iadd, 1, 0, 0, 0, .null)] = true := by decide +kernel
theorem ok_L_law_205 : ab_ok M_L_law (205, .iaload, 1, 0, 0, 0, .null) = true := by decide +kernel
theorem g_L_law_206_4 : ab_oks M_L_law [(206, .aload_n 0, 1, 0, 0, 0, .null), (207, .iload 4, 2, 4, 0, 0, .null), (209, .iconst 2, 1, 0, 0, 0, .int (nI (2))), (210, .iadd, 1, 0, 0, 0, .null)] = true := by decide +kernel
theorem ok_L_law_211 : ab_ok M_L_law (211, .iaload, 1, 0, 0, 0, .null) = true := by decide +kernel
theorem g_L_law_212_4 : ab_oks M_L_law [(212, .aload_n 0, 1, 0, 0, 0, .null), (213, .iload 4, 2, 4, 0, 0, .null), (215, .iconst 3, 1, 0, 0, 0, .int (nI (3))), (216, .iadd, 1, 0, 0, 0, .null)] = true := by decide +kernel
theorem ok_L_law_217 : ab_ok M_L_law (217, .iaload, 1, 0, 0, 0, .null) = true := by decide +kernel
theorem g_L_law_218_4 : ab_oks M_L_law [(218, .aload_n 0, 1, 0, 0, 0, .null), (219, .iload 4, 2, 4, 0, 0, .null), (221, .iconst 4, 1, 0, 0, 0, .int (nI (4))), (222, .iadd, 1, 0, 0, 0, .null)] = true := by decide +kernel
theorem ok_L_law_223 : ab_ok M_L_law (223, .iaload, 1, 0, 0, 0, .null) = true := by decide +kernel
theorem lk_L_101 : ab_lkV "LeafCradlesLaw" 101 M_X5_addVolume 4 [992, 993, 994, 97, 995] = true := by decide +kernel
theorem dc_L_law_224 : decode (AM.bytes M_L_law) 224 = .ok (.invokevirtual 101, 3) := by decide +kernel
theorem g_L_law_227_2 : ab_oks M_L_law [(227, .istore 6, 2, 6, 0, 0, .null), (229, .aload_n 2, 1, 2, 0, 0, .null)] = true := by decide +kernel
theorem lk_L_102 : ab_lkV "LeafCradlesLaw" 102 M_X5_thrown 0 [988, 989, 990, 97, 991] = true := by decide +kernel
theorem dc_L_law_230 : decode (AM.bytes M_L_law) 230 = .ok (.invokevirtual 102, 3) := by decide +kernel
theorem g_L_law_233_1 : ab_oks M_L_law [(233, .iload 5, 2, 5, 0, 0, .null)] = true := by decide +kernel
theorem dc_L_law_235 : decode (AM.bytes M_L_law) 235 = .ok (.if_icmp .eq 5, 3) := by decide +kernel
theorem g_L_law_240_1 : ab_oks M_L_law [(240, .iload 5, 2, 5, 0, 0, .null)] = true := by decide +kernel
theorem dc_L_law_242 : decode (AM.bytes M_L_law) 242 = .ok (.ifCond .ne 15, 3) := by decide +kernel
theorem g_L_law_257_1 : ab_oks M_L_law [(257, .goto 1565, 3, 1822, 0, 0, .null)] = true := by decide +kernel
theorem g_L_law_245_2 : ab_oks M_L_law [(245, .aload_n 3, 1, 3, 0, 0, .null), (246, .iconst 0, 1, 0, 0, 0, .int (nI (0)))] = true := by decide +kernel
theorem ok_L_law_247 : ab_ok M_L_law (247, .laload, 1, 0, 0, 0, .null) = true := by decide +kernel
theorem g_L_law_248_3 : ab_oks M_L_law [(248, .iload 6, 2, 6, 0, 0, .null), (250, .i2l, 1, 0, 0, 0, .null), (251, .lcmp, 1, 0, 0, 0, .null)] = true := by decide +kernel
theorem dc_L_law_252 : decode (AM.bytes M_L_law) 252 = .ok (.ifCond .eq 5, 3) := by decide +kernel
set_option maxRecDepth 100000 in
set_option maxHeartbeats 4000000 in
theorem la_0 {E : AE} {sx : Nat → Int32} {sl i mc ms : Nat} {T K : Nat → Nat → Int32} {os sc : Int32} {tc tp : Nat → Int32} {tl_ tn trd tv tdg tf tla : Int32} {pg ph pc : Nat → Int32} {pm : Int32} {z sa ro te fr to un ga pi be : Nat → Int32} {bm en sta sv ln th : Int32} {hh : Int64} {ov : Nat → Int64} (hi : i + 4 < sl) (hsl : sl < 100000) (hP : PO E M_L_addVolume M_X5_addVolume [.ref 4096, .int (sx (i + 1)), .int (sx (i + 2)), .int (sx (i + 3)), .int (sx (i + 4)), .ref 20480] [.ref 16384, .int (sx (i + 1)), .int (sx (i + 2)), .int (sx (i + 3)), .int (sx (i + 4))] (ol_ sx sl lsS gsS) (ar T K os sc) (te_ tc tp tl_ tn trd tv tdg tf tla) (pl pg ph pc pm) (mo z sa ro te fr to un ga pi be bm en sta sv ln th hh) ov) (cont : ∀ (th : Int32) (ov : Nat → Int64) (h : AH), INV (ol_ sx sl lsS gsS) th ov h → ∃ h' : AH, AR E M_L_law 13 1822 [some (.ref 0), some (.ref 4096), some (.ref 16384), some (.ref 20480), some (.int (nI (i))), none, none, none, none] [] h (.inl (some (.int (nI 1)))) h' mc ms) : ∃ h' : AH, AR E M_L_law 13 168 [some (.ref 0), some (.ref 4096), some (.ref 16384), some (.ref 20480), some (.int (nI (i))), none, none, none, none] [] (hp (ol_ sx sl lsS gsS) (ar T K os sc) (te_ tc tp tl_ tn trd tv tdg tf tla) (pl pg ph pc pm) (mo z sa ro te fr to un ga pi be bm en sta sv ln th hh) (ou ov) []) (.inl (some (.int (nI 1)))) h' (mc + 1) (ms + 6) := by
  obtain ⟨k, b, a1, t1, p1, ov1, h2, mc1, ms1, hmc, hms, hL, hM, hI, he⟩ := hP
  obtain ⟨h', hc⟩ := cont k ov1 _ hI
  obtain ⟨T1, K1, os1, sc1, tc1, tp1, tl_1, tn1, trd1, tv1, tdg1, tf1, tla1, pg1, ph1, pc1, pm1, z1, sa1, ro1, te1, fr1, to1, un1, ga1, pi1, be1, bm1, en1, sta1, sv1, ln1, hh1, nv1, nc1, nr1, ne1, a9, b9, q9, rfl, -⟩ := id hI
  have he2 : k = 0 → ov1 0 = b.toInt64 := he
  refine ⟨h', AR.room (show mc1 + mc ≤ mc + 1 by omega) (show ms1 + ms ≤ ms + 6 by omega) ?_⟩
  refine AR.run g_L_law_168_5 174 [some (.ref 0), some (.ref 4096), some (.ref 16384), some (.ref 20480), some (.int (nI (i))), none, none, none, none] [.int ((nI (i)) + (nI (1))), .ref 0, .ref 4096] _ [] rfl trivial ?_
  refine AR.ald (n := 0) (e := (i + 1)) ok_L_law_174 (by first | rfl | (simp only [nI_add, pk_mul]; first | done | rfl)) rfl (by omega) (by first | decide | omega) ?_
  refine AR.run g_L_law_175_4 180 [some (.ref 0), some (.ref 4096), some (.ref 16384), some (.ref 20480), some (.int (nI (i))), none, none, none, none] [.int ((nI (i)) + (nI (2))), .ref 0, .int (sx (i + 1)), .ref 4096] _ [] rfl trivial ?_
  refine AR.ald (n := 0) (e := (i + 2)) ok_L_law_180 (by first | rfl | (simp only [nI_add, pk_mul]; first | done | rfl)) rfl (by omega) (by first | decide | omega) ?_
  refine AR.run g_L_law_181_4 186 [some (.ref 0), some (.ref 4096), some (.ref 16384), some (.ref 20480), some (.int (nI (i))), none, none, none, none] [.int ((nI (i)) + (nI (3))), .ref 0, .int (sx (i + 2)), .int (sx (i + 1)), .ref 4096] _ [] rfl trivial ?_
  refine AR.ald (n := 0) (e := (i + 3)) ok_L_law_186 (by first | rfl | (simp only [nI_add, pk_mul]; first | done | rfl)) rfl (by omega) (by first | decide | omega) ?_
  refine AR.run g_L_law_187_4 192 [some (.ref 0), some (.ref 4096), some (.ref 16384), some (.ref 20480), some (.int (nI (i))), none, none, none, none] [.int ((nI (i)) + (nI (4))), .ref 0, .int (sx (i + 3)), .int (sx (i + 2)), .int (sx (i + 1)), .ref 4096] _ [] rfl trivial ?_
  refine AR.ald (n := 0) (e := (i + 4)) ok_L_law_192 (by first | rfl | (simp only [nI_add, pk_mul]; first | done | rfl)) rfl (by omega) (by first | decide | omega) ?_
  refine AR.run g_L_law_193_1 194 [some (.ref 0), some (.ref 4096), some (.ref 16384), some (.ref 20480), some (.int (nI (i))), none, none, none, none] [.ref 20480, .int (sx (i + 4)), .int (sx (i + 3)), .int (sx (i + 2)), .int (sx (i + 1)), .ref 4096] _ [] rfl trivial ?_
  refine AR.callS (r := some (.int k)) (av := [.ref 4096, .int (sx (i + 1)), .int (sx (i + 2)), .int (sx (i + 3)), .int (sx (i + 4)), .ref 20480]) (rest := []) lk_L_96 dc_L_law_194 hL (by first | rfl | (simp only [nI_add, pk_mul]; first | done | rfl)) rfl ?_
  refine AR.cast (st' := [.int (k)]) rfl rfl rfl ?_
  refine AR.run g_L_law_197_6 205 [some (.ref 0), some (.ref 4096), some (.ref 16384), some (.ref 20480), some (.int (nI (i))), some (.int (k)), none, none, none] [.int ((nI (i)) + (nI (1))), .ref 0, .ref 16384] _ [] rfl trivial ?_
  refine AR.ald (n := 0) (e := (i + 1)) ok_L_law_205 (by first | rfl | (simp only [nI_add, pk_mul]; first | done | rfl)) rfl (by omega) (by first | decide | omega) ?_
  refine AR.run g_L_law_206_4 211 [some (.ref 0), some (.ref 4096), some (.ref 16384), some (.ref 20480), some (.int (nI (i))), some (.int (k)), none, none, none] [.int ((nI (i)) + (nI (2))), .ref 0, .int (sx (i + 1)), .ref 16384] _ [] rfl trivial ?_
  refine AR.ald (n := 0) (e := (i + 2)) ok_L_law_211 (by first | rfl | (simp only [nI_add, pk_mul]; first | done | rfl)) rfl (by omega) (by first | decide | omega) ?_
  refine AR.run g_L_law_212_4 217 [some (.ref 0), some (.ref 4096), some (.ref 16384), some (.ref 20480), some (.int (nI (i))), some (.int (k)), none, none, none] [.int ((nI (i)) + (nI (3))), .ref 0, .int (sx (i + 2)), .int (sx (i + 1)), .ref 16384] _ [] rfl trivial ?_
  refine AR.ald (n := 0) (e := (i + 3)) ok_L_law_217 (by first | rfl | (simp only [nI_add, pk_mul]; first | done | rfl)) rfl (by omega) (by first | decide | omega) ?_
  refine AR.run g_L_law_218_4 223 [some (.ref 0), some (.ref 4096), some (.ref 16384), some (.ref 20480), some (.int (nI (i))), some (.int (k)), none, none, none] [.int ((nI (i)) + (nI (4))), .ref 0, .int (sx (i + 3)), .int (sx (i + 2)), .int (sx (i + 1)), .ref 16384] _ [] rfl trivial ?_
  refine AR.ald (n := 0) (e := (i + 4)) ok_L_law_223 (by first | rfl | (simp only [nI_add, pk_mul]; first | done | rfl)) rfl (by omega) (by first | decide | omega) ?_
  refine AR.callV1 (16384) [.int (sx (i + 1)), .int (sx (i + 2)), .int (sx (i + 3)), .int (sx (i + 4))] [] lk_L_101 dc_L_law_224 rfl rfl hM (by first | rfl | (simp only [nI_add, pk_mul]; first | done | rfl)) rfl ?_
  refine AR.run g_L_law_227_2 230 [some (.ref 0), some (.ref 4096), some (.ref 16384), some (.ref 20480), some (.int (nI (i))), some (.int (k)), some (.int (b)), none, none] [.ref 16384] _ [] rfl trivial ?_
  refine AR.callV1 (16384) [] [] lk_L_102 dc_L_law_230 rfl rfl (s_thrown _) (by first | rfl | (simp only [nI_add, pk_mul]; first | done | rfl)) rfl ?_
  refine AR.run g_L_law_233_1 235 [some (.ref 0), some (.ref 4096), some (.ref 16384), some (.ref 20480), some (.int (nI (i))), some (.int (k)), some (.int (b)), none, none] [.int (k), .int (k)] _ [] rfl trivial ?_
  refine AR.eq2 (tgt := 240) dc_L_law_235 (by decide) (fun c235_1 => ?_) (fun c235_1 => absurd c235_1 (fun q => q rfl))
  refine AR.run g_L_law_240_1 242 [some (.ref 0), some (.ref 4096), some (.ref 16384), some (.ref 20480), some (.int (nI (i))), some (.int (k)), some (.int (b)), none, none] [.int (k)] _ [] rfl trivial ?_
  refine AR.ne (tgt := 257) dc_L_law_242 (by decide) (fun c242_2 => ?_) (fun c242_2 => ?_)
  · refine AR.run g_L_law_257_1 1822 [some (.ref 0), some (.ref 4096), some (.ref 16384), some (.ref 20480), some (.int (nI (i))), some (.int (k)), some (.int (b)), none, none] [] _ [] rfl trivial ?_
    refine AR.drop (L' := [some (.ref 0), some (.ref 4096), some (.ref 16384), some (.ref 20480), some (.int (nI (i))), none, none, none, none]) ⟨rfl, rfl, rfl, rfl, rfl, trivial⟩ ?_
    exact hc
  · refine AR.run g_L_law_245_2 247 [some (.ref 0), some (.ref 4096), some (.ref 16384), some (.ref 20480), some (.int (nI (i))), some (.int (k)), some (.int (b)), none, none] [.int (nI (0)), .ref 20480] _ [] rfl trivial ?_
    refine AR.lald (n := 0) (e := 0) ok_L_law_247 (by first | rfl | (simp only [nI_add, pk_mul]; first | done | rfl)) rfl (by omega) (by decide) ?_
    refine AR.run g_L_law_248_3 252 [some (.ref 0), some (.ref 4096), some (.ref 16384), some (.ref 20480), some (.int (nI (i))), some (.int (k)), some (.int (b)), none, none] [.int (lg_cmp (ov1 0) (b.toInt64))] _ [] rfl trivial ?_
    refine AR.eq (tgt := 257) dc_L_law_252 (by decide) (fun c252_3 => ?_) (fun c252_3 => absurd c252_3 (fun q9 => q9 (lcmp_eq (he2 (by assumption)))))
    refine AR.run g_L_law_257_1 1822 [some (.ref 0), some (.ref 4096), some (.ref 16384), some (.ref 20480), some (.int (nI (i))), some (.int (k)), some (.int (b)), none, none] [] _ [] rfl trivial ?_
    refine AR.drop (L' := [some (.ref 0), some (.ref 4096), some (.ref 16384), some (.ref 20480), some (.int (nI (i))), none, none, none, none]) ⟨rfl, rfl, rfl, rfl, rfl, trivial⟩ ?_
    exact hc
theorem g_L_law_260_5 : ab_oks M_L_law [(260, .aload_n 1, 1, 1, 0, 0, .null), (261, .aload_n 0, 1, 0, 0, 0, .null), (262, .iload 4, 2, 4, 0, 0, .null), (264, .iconst 1, 1, 0, 0, 0, .int (nI (1))), (265, .iadd, 1, 0, 0, 0, .null)] = true := by decide +kernel
theorem ok_L_law_266 : ab_ok M_L_law (266, .iaload, 1, 0, 0, 0, .null) = true := by decide +kernel
theorem g_L_law_267_4 : ab_oks M_L_law [(267, .aload_n 0, 1, 0, 0, 0, .null), (268, .iload 4, 2, 4, 0, 0, .null), (270, .iconst 2, 1, 0, 0, 0, .int (nI (2))), (271, .iadd, 1, 0, 0, 0, .null)] = true := by decide +kernel
theorem ok_L_law_272 : ab_ok M_L_law (272, .iaload, 1, 0, 0, 0, .null) = true := by decide +kernel
theorem g_L_law_273_1 : ab_oks M_L_law [(273, .aload_n 3, 1, 3, 0, 0, .null)] = true := by decide +kernel
theorem lk_L_105 : ab_lkS "LeafCradlesLaw" 105 M_L_addCradle 4 [632, 633, 90, 634] = true := by decide +kernel
theorem dc_L_law_274 : decode (AM.bytes M_L_law) 274 = .ok (.invokestatic 105, 3) := by decide +kernel
theorem g_L_law_277_6 : ab_oks M_L_law [(277, .istore 5, 2, 5, 0, 0, .null), (279, .aload_n 2, 1, 2, 0, 0, .null), (280, .aload_n 0, 1, 0, 0, 0, .null), (281, .iload 4, 2, 4, 0, 0, .null), (283, .iconst 1, 1, 0, 0, 0, .int (nI (1))), (284, .iadd, 1, 0, 0, 0, .null)] = true := by decide +kernel
theorem ok_L_law_285 : ab_ok M_L_law (285, .iaload, 1, 0, 0, 0, .null) = true := by decide +kernel
theorem g_L_law_286_4 : ab_oks M_L_law [(286, .aload_n 0, 1, 0, 0, 0, .null), (287, .iload 4, 2, 4, 0, 0, .null), (289, .iconst 2, 1, 0, 0, 0, .int (nI (2))), (290, .iadd, 1, 0, 0, 0, .null)] = true := by decide +kernel
theorem ok_L_law_291 : ab_ok M_L_law (291, .iaload, 1, 0, 0, 0, .null) = true := by decide +kernel
theorem lk_L_108 : ab_lkV "LeafCradlesLaw" 108 M_X5_addCradle 2 [1007, 1008, 1009, 97, 1010] = true := by decide +kernel
theorem dc_L_law_292 : decode (AM.bytes M_L_law) 292 = .ok (.invokevirtual 108, 3) := by decide +kernel
theorem g_L_law_295_2 : ab_oks M_L_law [(295, .istore 6, 2, 6, 0, 0, .null), (297, .aload_n 2, 1, 2, 0, 0, .null)] = true := by decide +kernel
theorem dc_L_law_298 : decode (AM.bytes M_L_law) 298 = .ok (.invokevirtual 102, 3) := by decide +kernel
theorem g_L_law_301_1 : ab_oks M_L_law [(301, .iload 5, 2, 5, 0, 0, .null)] = true := by decide +kernel
theorem dc_L_law_303 : decode (AM.bytes M_L_law) 303 = .ok (.if_icmp .eq 5, 3) := by decide +kernel
theorem g_L_law_308_1 : ab_oks M_L_law [(308, .iload 5, 2, 5, 0, 0, .null)] = true := by decide +kernel
theorem dc_L_law_310 : decode (AM.bytes M_L_law) 310 = .ok (.ifCond .ne 15, 3) := by decide +kernel
theorem g_L_law_325_1 : ab_oks M_L_law [(325, .goto 1497, 3, 1822, 0, 0, .null)] = true := by decide +kernel
theorem g_L_law_313_2 : ab_oks M_L_law [(313, .aload_n 3, 1, 3, 0, 0, .null), (314, .iconst 0, 1, 0, 0, 0, .int (nI (0)))] = true := by decide +kernel
theorem ok_L_law_315 : ab_ok M_L_law (315, .laload, 1, 0, 0, 0, .null) = true := by decide +kernel
theorem g_L_law_316_3 : ab_oks M_L_law [(316, .iload 6, 2, 6, 0, 0, .null), (318, .i2l, 1, 0, 0, 0, .null), (319, .lcmp, 1, 0, 0, 0, .null)] = true := by decide +kernel
theorem dc_L_law_320 : decode (AM.bytes M_L_law) 320 = .ok (.ifCond .eq 5, 3) := by decide +kernel
set_option maxRecDepth 100000 in
set_option maxHeartbeats 4000000 in
theorem la_1 {E : AE} {sx : Nat → Int32} {sl i mc ms : Nat} {T K : Nat → Nat → Int32} {os sc : Int32} {tc tp : Nat → Int32} {tl_ tn trd tv tdg tf tla : Int32} {pg ph pc : Nat → Int32} {pm : Int32} {z sa ro te fr to un ga pi be : Nat → Int32} {bm en sta sv ln th : Int32} {hh : Int64} {ov : Nat → Int64} (hi : i + 4 < sl) (hsl : sl < 100000) (hP : PO E M_L_addCradle M_X5_addCradle [.ref 4096, .int (sx (i + 1)), .int (sx (i + 2)), .ref 20480] [.ref 16384, .int (sx (i + 1)), .int (sx (i + 2))] (ol_ sx sl lsS gsS) (ar T K os sc) (te_ tc tp tl_ tn trd tv tdg tf tla) (pl pg ph pc pm) (mo z sa ro te fr to un ga pi be bm en sta sv ln th hh) ov) (cont : ∀ (th : Int32) (ov : Nat → Int64) (h : AH), INV (ol_ sx sl lsS gsS) th ov h → ∃ h' : AH, AR E M_L_law 13 1822 [some (.ref 0), some (.ref 4096), some (.ref 16384), some (.ref 20480), some (.int (nI (i))), none, none, none, none] [] h (.inl (some (.int (nI 1)))) h' mc ms) : ∃ h' : AH, AR E M_L_law 13 260 [some (.ref 0), some (.ref 4096), some (.ref 16384), some (.ref 20480), some (.int (nI (i))), none, none, none, none] [] (hp (ol_ sx sl lsS gsS) (ar T K os sc) (te_ tc tp tl_ tn trd tv tdg tf tla) (pl pg ph pc pm) (mo z sa ro te fr to un ga pi be bm en sta sv ln th hh) (ou ov) []) (.inl (some (.int (nI 1)))) h' (mc + 1) (ms + 6) := by
  obtain ⟨k, b, a1, t1, p1, ov1, h2, mc1, ms1, hmc, hms, hL, hM, hI, he⟩ := hP
  obtain ⟨h', hc⟩ := cont k ov1 _ hI
  obtain ⟨T1, K1, os1, sc1, tc1, tp1, tl_1, tn1, trd1, tv1, tdg1, tf1, tla1, pg1, ph1, pc1, pm1, z1, sa1, ro1, te1, fr1, to1, un1, ga1, pi1, be1, bm1, en1, sta1, sv1, ln1, hh1, nv1, nc1, nr1, ne1, a9, b9, q9, rfl, -⟩ := id hI
  have he2 : k = 0 → ov1 0 = b.toInt64 := he
  refine ⟨h', AR.room (show mc1 + mc ≤ mc + 1 by omega) (show ms1 + ms ≤ ms + 6 by omega) ?_⟩
  refine AR.run g_L_law_260_5 266 [some (.ref 0), some (.ref 4096), some (.ref 16384), some (.ref 20480), some (.int (nI (i))), none, none, none, none] [.int ((nI (i)) + (nI (1))), .ref 0, .ref 4096] _ [] rfl trivial ?_
  refine AR.ald (n := 0) (e := (i + 1)) ok_L_law_266 (by first | rfl | (simp only [nI_add, pk_mul]; first | done | rfl)) rfl (by omega) (by first | decide | omega) ?_
  refine AR.run g_L_law_267_4 272 [some (.ref 0), some (.ref 4096), some (.ref 16384), some (.ref 20480), some (.int (nI (i))), none, none, none, none] [.int ((nI (i)) + (nI (2))), .ref 0, .int (sx (i + 1)), .ref 4096] _ [] rfl trivial ?_
  refine AR.ald (n := 0) (e := (i + 2)) ok_L_law_272 (by first | rfl | (simp only [nI_add, pk_mul]; first | done | rfl)) rfl (by omega) (by first | decide | omega) ?_
  refine AR.run g_L_law_273_1 274 [some (.ref 0), some (.ref 4096), some (.ref 16384), some (.ref 20480), some (.int (nI (i))), none, none, none, none] [.ref 20480, .int (sx (i + 2)), .int (sx (i + 1)), .ref 4096] _ [] rfl trivial ?_
  refine AR.callS (r := some (.int k)) (av := [.ref 4096, .int (sx (i + 1)), .int (sx (i + 2)), .ref 20480]) (rest := []) lk_L_105 dc_L_law_274 hL (by first | rfl | (simp only [nI_add, pk_mul]; first | done | rfl)) rfl ?_
  refine AR.cast (st' := [.int (k)]) rfl rfl rfl ?_
  refine AR.run g_L_law_277_6 285 [some (.ref 0), some (.ref 4096), some (.ref 16384), some (.ref 20480), some (.int (nI (i))), some (.int (k)), none, none, none] [.int ((nI (i)) + (nI (1))), .ref 0, .ref 16384] _ [] rfl trivial ?_
  refine AR.ald (n := 0) (e := (i + 1)) ok_L_law_285 (by first | rfl | (simp only [nI_add, pk_mul]; first | done | rfl)) rfl (by omega) (by first | decide | omega) ?_
  refine AR.run g_L_law_286_4 291 [some (.ref 0), some (.ref 4096), some (.ref 16384), some (.ref 20480), some (.int (nI (i))), some (.int (k)), none, none, none] [.int ((nI (i)) + (nI (2))), .ref 0, .int (sx (i + 1)), .ref 16384] _ [] rfl trivial ?_
  refine AR.ald (n := 0) (e := (i + 2)) ok_L_law_291 (by first | rfl | (simp only [nI_add, pk_mul]; first | done | rfl)) rfl (by omega) (by first | decide | omega) ?_
  refine AR.callV1 (16384) [.int (sx (i + 1)), .int (sx (i + 2))] [] lk_L_108 dc_L_law_292 rfl rfl hM (by first | rfl | (simp only [nI_add, pk_mul]; first | done | rfl)) rfl ?_
  refine AR.run g_L_law_295_2 298 [some (.ref 0), some (.ref 4096), some (.ref 16384), some (.ref 20480), some (.int (nI (i))), some (.int (k)), some (.int (b)), none, none] [.ref 16384] _ [] rfl trivial ?_
  refine AR.callV1 (16384) [] [] lk_L_102 dc_L_law_298 rfl rfl (s_thrown _) (by first | rfl | (simp only [nI_add, pk_mul]; first | done | rfl)) rfl ?_
  refine AR.run g_L_law_301_1 303 [some (.ref 0), some (.ref 4096), some (.ref 16384), some (.ref 20480), some (.int (nI (i))), some (.int (k)), some (.int (b)), none, none] [.int (k), .int (k)] _ [] rfl trivial ?_
  refine AR.eq2 (tgt := 308) dc_L_law_303 (by decide) (fun c303_1 => ?_) (fun c303_1 => absurd c303_1 (fun q => q rfl))
  refine AR.run g_L_law_308_1 310 [some (.ref 0), some (.ref 4096), some (.ref 16384), some (.ref 20480), some (.int (nI (i))), some (.int (k)), some (.int (b)), none, none] [.int (k)] _ [] rfl trivial ?_
  refine AR.ne (tgt := 325) dc_L_law_310 (by decide) (fun c310_2 => ?_) (fun c310_2 => ?_)
  · refine AR.run g_L_law_325_1 1822 [some (.ref 0), some (.ref 4096), some (.ref 16384), some (.ref 20480), some (.int (nI (i))), some (.int (k)), some (.int (b)), none, none] [] _ [] rfl trivial ?_
    refine AR.drop (L' := [some (.ref 0), some (.ref 4096), some (.ref 16384), some (.ref 20480), some (.int (nI (i))), none, none, none, none]) ⟨rfl, rfl, rfl, rfl, rfl, trivial⟩ ?_
    exact hc
  · refine AR.run g_L_law_313_2 315 [some (.ref 0), some (.ref 4096), some (.ref 16384), some (.ref 20480), some (.int (nI (i))), some (.int (k)), some (.int (b)), none, none] [.int (nI (0)), .ref 20480] _ [] rfl trivial ?_
    refine AR.lald (n := 0) (e := 0) ok_L_law_315 (by first | rfl | (simp only [nI_add, pk_mul]; first | done | rfl)) rfl (by omega) (by decide) ?_
    refine AR.run g_L_law_316_3 320 [some (.ref 0), some (.ref 4096), some (.ref 16384), some (.ref 20480), some (.int (nI (i))), some (.int (k)), some (.int (b)), none, none] [.int (lg_cmp (ov1 0) (b.toInt64))] _ [] rfl trivial ?_
    refine AR.eq (tgt := 325) dc_L_law_320 (by decide) (fun c320_3 => ?_) (fun c320_3 => absurd c320_3 (fun q9 => q9 (lcmp_eq (he2 (by assumption)))))
    refine AR.run g_L_law_325_1 1822 [some (.ref 0), some (.ref 4096), some (.ref 16384), some (.ref 20480), some (.int (nI (i))), some (.int (k)), some (.int (b)), none, none] [] _ [] rfl trivial ?_
    refine AR.drop (L' := [some (.ref 0), some (.ref 4096), some (.ref 16384), some (.ref 20480), some (.int (nI (i))), none, none, none, none]) ⟨rfl, rfl, rfl, rfl, rfl, trivial⟩ ?_
    exact hc
theorem g_L_law_328_2 : ab_oks M_L_law [(328, .aload_n 1, 1, 1, 0, 0, .null), (329, .aload_n 3, 1, 3, 0, 0, .null)] = true := by decide +kernel
theorem lk_L_109 : ab_lkS "LeafCradlesLaw" 109 M_L_addCarrier 2 [644, 645, 90, 646] = true := by decide +kernel
theorem dc_L_law_330 : decode (AM.bytes M_L_law) 330 = .ok (.invokestatic 109, 3) := by decide +kernel
theorem g_L_law_333_2 : ab_oks M_L_law [(333, .istore 5, 2, 5, 0, 0, .null), (335, .aload_n 2, 1, 2, 0, 0, .null)] = true := by decide +kernel
theorem lk_L_112 : ab_lkV "LeafCradlesLaw" 112 M_X5_addCarrier 0 [1011, 1012, 1013, 97, 1014] = true := by decide +kernel
theorem dc_L_law_336 : decode (AM.bytes M_L_law) 336 = .ok (.invokevirtual 112, 3) := by decide +kernel
theorem g_L_law_339_2 : ab_oks M_L_law [(339, .istore 6, 2, 6, 0, 0, .null), (341, .aload_n 2, 1, 2, 0, 0, .null)] = true := by decide +kernel
theorem dc_L_law_342 : decode (AM.bytes M_L_law) 342 = .ok (.invokevirtual 102, 3) := by decide +kernel
theorem g_L_law_345_1 : ab_oks M_L_law [(345, .iload 5, 2, 5, 0, 0, .null)] = true := by decide +kernel
theorem dc_L_law_347 : decode (AM.bytes M_L_law) 347 = .ok (.if_icmp .eq 5, 3) := by decide +kernel
theorem g_L_law_352_1 : ab_oks M_L_law [(352, .iload 5, 2, 5, 0, 0, .null)] = true := by decide +kernel
theorem dc_L_law_354 : decode (AM.bytes M_L_law) 354 = .ok (.ifCond .ne 15, 3) := by decide +kernel
theorem g_L_law_369_1 : ab_oks M_L_law [(369, .goto 1453, 3, 1822, 0, 0, .null)] = true := by decide +kernel
theorem g_L_law_357_2 : ab_oks M_L_law [(357, .aload_n 3, 1, 3, 0, 0, .null), (358, .iconst 0, 1, 0, 0, 0, .int (nI (0)))] = true := by decide +kernel
theorem ok_L_law_359 : ab_ok M_L_law (359, .laload, 1, 0, 0, 0, .null) = true := by decide +kernel
theorem g_L_law_360_3 : ab_oks M_L_law [(360, .iload 6, 2, 6, 0, 0, .null), (362, .i2l, 1, 0, 0, 0, .null), (363, .lcmp, 1, 0, 0, 0, .null)] = true := by decide +kernel
theorem dc_L_law_364 : decode (AM.bytes M_L_law) 364 = .ok (.ifCond .eq 5, 3) := by decide +kernel
set_option maxRecDepth 100000 in
set_option maxHeartbeats 4000000 in
theorem la_2 {E : AE} {sx : Nat → Int32} {sl i mc ms : Nat} {T K : Nat → Nat → Int32} {os sc : Int32} {tc tp : Nat → Int32} {tl_ tn trd tv tdg tf tla : Int32} {pg ph pc : Nat → Int32} {pm : Int32} {z sa ro te fr to un ga pi be : Nat → Int32} {bm en sta sv ln th : Int32} {hh : Int64} {ov : Nat → Int64} (hi : i + 4 < sl) (hsl : sl < 100000) (hP : PO E M_L_addCarrier M_X5_addCarrier [.ref 4096, .ref 20480] [.ref 16384] (ol_ sx sl lsS gsS) (ar T K os sc) (te_ tc tp tl_ tn trd tv tdg tf tla) (pl pg ph pc pm) (mo z sa ro te fr to un ga pi be bm en sta sv ln th hh) ov) (cont : ∀ (th : Int32) (ov : Nat → Int64) (h : AH), INV (ol_ sx sl lsS gsS) th ov h → ∃ h' : AH, AR E M_L_law 13 1822 [some (.ref 0), some (.ref 4096), some (.ref 16384), some (.ref 20480), some (.int (nI (i))), none, none, none, none] [] h (.inl (some (.int (nI 1)))) h' mc ms) : ∃ h' : AH, AR E M_L_law 13 328 [some (.ref 0), some (.ref 4096), some (.ref 16384), some (.ref 20480), some (.int (nI (i))), none, none, none, none] [] (hp (ol_ sx sl lsS gsS) (ar T K os sc) (te_ tc tp tl_ tn trd tv tdg tf tla) (pl pg ph pc pm) (mo z sa ro te fr to un ga pi be bm en sta sv ln th hh) (ou ov) []) (.inl (some (.int (nI 1)))) h' (mc + 1) (ms + 6) := by
  obtain ⟨k, b, a1, t1, p1, ov1, h2, mc1, ms1, hmc, hms, hL, hM, hI, he⟩ := hP
  obtain ⟨h', hc⟩ := cont k ov1 _ hI
  obtain ⟨T1, K1, os1, sc1, tc1, tp1, tl_1, tn1, trd1, tv1, tdg1, tf1, tla1, pg1, ph1, pc1, pm1, z1, sa1, ro1, te1, fr1, to1, un1, ga1, pi1, be1, bm1, en1, sta1, sv1, ln1, hh1, nv1, nc1, nr1, ne1, a9, b9, q9, rfl, -⟩ := id hI
  have he2 : k = 0 → ov1 0 = b.toInt64 := he
  refine ⟨h', AR.room (show mc1 + mc ≤ mc + 1 by omega) (show ms1 + ms ≤ ms + 6 by omega) ?_⟩
  refine AR.run g_L_law_328_2 330 [some (.ref 0), some (.ref 4096), some (.ref 16384), some (.ref 20480), some (.int (nI (i))), none, none, none, none] [.ref 20480, .ref 4096] _ [] rfl trivial ?_
  refine AR.callS (r := some (.int k)) (av := [.ref 4096, .ref 20480]) (rest := []) lk_L_109 dc_L_law_330 hL (by first | rfl | (simp only [nI_add, pk_mul]; first | done | rfl)) rfl ?_
  refine AR.cast (st' := [.int (k)]) rfl rfl rfl ?_
  refine AR.run g_L_law_333_2 336 [some (.ref 0), some (.ref 4096), some (.ref 16384), some (.ref 20480), some (.int (nI (i))), some (.int (k)), none, none, none] [.ref 16384] _ [] rfl trivial ?_
  refine AR.callV1 (16384) [] [] lk_L_112 dc_L_law_336 rfl rfl hM (by first | rfl | (simp only [nI_add, pk_mul]; first | done | rfl)) rfl ?_
  refine AR.run g_L_law_339_2 342 [some (.ref 0), some (.ref 4096), some (.ref 16384), some (.ref 20480), some (.int (nI (i))), some (.int (k)), some (.int (b)), none, none] [.ref 16384] _ [] rfl trivial ?_
  refine AR.callV1 (16384) [] [] lk_L_102 dc_L_law_342 rfl rfl (s_thrown _) (by first | rfl | (simp only [nI_add, pk_mul]; first | done | rfl)) rfl ?_
  refine AR.run g_L_law_345_1 347 [some (.ref 0), some (.ref 4096), some (.ref 16384), some (.ref 20480), some (.int (nI (i))), some (.int (k)), some (.int (b)), none, none] [.int (k), .int (k)] _ [] rfl trivial ?_
  refine AR.eq2 (tgt := 352) dc_L_law_347 (by decide) (fun c347_1 => ?_) (fun c347_1 => absurd c347_1 (fun q => q rfl))
  refine AR.run g_L_law_352_1 354 [some (.ref 0), some (.ref 4096), some (.ref 16384), some (.ref 20480), some (.int (nI (i))), some (.int (k)), some (.int (b)), none, none] [.int (k)] _ [] rfl trivial ?_
  refine AR.ne (tgt := 369) dc_L_law_354 (by decide) (fun c354_2 => ?_) (fun c354_2 => ?_)
  · refine AR.run g_L_law_369_1 1822 [some (.ref 0), some (.ref 4096), some (.ref 16384), some (.ref 20480), some (.int (nI (i))), some (.int (k)), some (.int (b)), none, none] [] _ [] rfl trivial ?_
    refine AR.drop (L' := [some (.ref 0), some (.ref 4096), some (.ref 16384), some (.ref 20480), some (.int (nI (i))), none, none, none, none]) ⟨rfl, rfl, rfl, rfl, rfl, trivial⟩ ?_
    exact hc
  · refine AR.run g_L_law_357_2 359 [some (.ref 0), some (.ref 4096), some (.ref 16384), some (.ref 20480), some (.int (nI (i))), some (.int (k)), some (.int (b)), none, none] [.int (nI (0)), .ref 20480] _ [] rfl trivial ?_
    refine AR.lald (n := 0) (e := 0) ok_L_law_359 (by first | rfl | (simp only [nI_add, pk_mul]; first | done | rfl)) rfl (by omega) (by decide) ?_
    refine AR.run g_L_law_360_3 364 [some (.ref 0), some (.ref 4096), some (.ref 16384), some (.ref 20480), some (.int (nI (i))), some (.int (k)), some (.int (b)), none, none] [.int (lg_cmp (ov1 0) (b.toInt64))] _ [] rfl trivial ?_
    refine AR.eq (tgt := 369) dc_L_law_364 (by decide) (fun c364_3 => ?_) (fun c364_3 => absurd c364_3 (fun q9 => q9 (lcmp_eq (he2 (by assumption)))))
    refine AR.run g_L_law_369_1 1822 [some (.ref 0), some (.ref 4096), some (.ref 16384), some (.ref 20480), some (.int (nI (i))), some (.int (k)), some (.int (b)), none, none] [] _ [] rfl trivial ?_
    refine AR.drop (L' := [some (.ref 0), some (.ref 4096), some (.ref 16384), some (.ref 20480), some (.int (nI (i))), none, none, none, none]) ⟨rfl, rfl, rfl, rfl, rfl, trivial⟩ ?_
    exact hc
theorem g_L_law_372_5 : ab_oks M_L_law [(372, .aload_n 1, 1, 1, 0, 0, .null), (373, .aload_n 0, 1, 0, 0, 0, .null), (374, .iload 4, 2, 4, 0, 0, .null), (376, .iconst 1, 1, 0, 0, 0, .int (nI (1))), (377, .iadd, 1, 0, 0, 0, .null)] = true := by decide +kernel
theorem ok_L_law_378 : ab_ok M_L_law (378, .iaload, 1, 0, 0, 0, .null) = true := by decide +kernel
theorem g_L_law_379_4 : ab_oks M_L_law [(379, .aload_n 0, 1, 0, 0, 0, .null), (380, .iload 4, 2, 4, 0, 0, .null), (382, .iconst 2, 1, 0, 0, 0, .int (nI (2))), (383, .iadd, 1, 0, 0, 0, .null)] = true := by decide +kernel
theorem ok_L_law_384 : ab_ok M_L_law (384, .iaload, 1, 0, 0, 0, .null) = true := by decide +kernel
theorem g_L_law_385_1 : ab_oks M_L_law [(385, .aload_n 3, 1, 3, 0, 0, .null)] = true := by decide +kernel
theorem lk_L_113 : ab_lkS "LeafCradlesLaw" 113 M_L_set 4 [656, 657, 90, 658] = true := by decide +kernel
theorem dc_L_law_386 : decode (AM.bytes M_L_law) 386 = .ok (.invokestatic 113, 3) := by decide +kernel
theorem g_L_law_389_6 : ab_oks M_L_law [(389, .istore 5, 2, 5, 0, 0, .null), (391, .aload_n 2, 1, 2, 0, 0, .null), (392, .aload_n 0, 1, 0, 0, 0, .null), (393, .iload 4, 2, 4, 0, 0, .null), (395, .iconst 1, 1, 0, 0, 0, .int (nI (1))), (396, .iadd, 1, 0, 0, 0, .null)] = true := by decide +kernel
theorem ok_L_law_397 : ab_ok M_L_law (397, .iaload, 1, 0, 0, 0, .null) = true := by decide +kernel
theorem g_L_law_398_4 : ab_oks M_L_law [(398, .aload_n 0, 1, 0, 0, 0, .null), (399, .iload 4, 2, 4, 0, 0, .null), (401, .iconst 2, 1, 0, 0, 0, .int (nI (2))), (402, .iadd, 1, 0, 0, 0, .null)] = true := by decide +kernel
theorem ok_L_law_403 : ab_ok M_L_law (403, .iaload, 1, 0, 0, 0, .null) = true := by decide +kernel
theorem lk_L_115 : ab_lkV "LeafCradlesLaw" 115 M_X5_set 2 [1015, 1016, 1017, 97, 1018] = true := by decide +kernel
theorem dc_L_law_404 : decode (AM.bytes M_L_law) 404 = .ok (.invokevirtual 115, 3) := by decide +kernel
theorem g_L_law_407_2 : ab_oks M_L_law [(407, .istore 6, 2, 6, 0, 0, .null), (409, .aload_n 2, 1, 2, 0, 0, .null)] = true := by decide +kernel
theorem dc_L_law_410 : decode (AM.bytes M_L_law) 410 = .ok (.invokevirtual 102, 3) := by decide +kernel
theorem g_L_law_413_1 : ab_oks M_L_law [(413, .iload 5, 2, 5, 0, 0, .null)] = true := by decide +kernel
theorem dc_L_law_415 : decode (AM.bytes M_L_law) 415 = .ok (.if_icmp .eq 5, 3) := by decide +kernel
theorem g_L_law_420_1 : ab_oks M_L_law [(420, .iload 5, 2, 5, 0, 0, .null)] = true := by decide +kernel
theorem dc_L_law_422 : decode (AM.bytes M_L_law) 422 = .ok (.ifCond .ne 15, 3) := by decide +kernel
theorem g_L_law_437_1 : ab_oks M_L_law [(437, .goto 1385, 3, 1822, 0, 0, .null)] = true := by decide +kernel
theorem g_L_law_425_2 : ab_oks M_L_law [(425, .aload_n 3, 1, 3, 0, 0, .null), (426, .iconst 0, 1, 0, 0, 0, .int (nI (0)))] = true := by decide +kernel
theorem ok_L_law_427 : ab_ok M_L_law (427, .laload, 1, 0, 0, 0, .null) = true := by decide +kernel
theorem g_L_law_428_3 : ab_oks M_L_law [(428, .iload 6, 2, 6, 0, 0, .null), (430, .i2l, 1, 0, 0, 0, .null), (431, .lcmp, 1, 0, 0, 0, .null)] = true := by decide +kernel
theorem dc_L_law_432 : decode (AM.bytes M_L_law) 432 = .ok (.ifCond .eq 5, 3) := by decide +kernel
set_option maxRecDepth 100000 in
set_option maxHeartbeats 4000000 in
theorem la_3 {E : AE} {sx : Nat → Int32} {sl i mc ms : Nat} {T K : Nat → Nat → Int32} {os sc : Int32} {tc tp : Nat → Int32} {tl_ tn trd tv tdg tf tla : Int32} {pg ph pc : Nat → Int32} {pm : Int32} {z sa ro te fr to un ga pi be : Nat → Int32} {bm en sta sv ln th : Int32} {hh : Int64} {ov : Nat → Int64} (hi : i + 4 < sl) (hsl : sl < 100000) (hP : PO E M_L_set M_X5_set [.ref 4096, .int (sx (i + 1)), .int (sx (i + 2)), .ref 20480] [.ref 16384, .int (sx (i + 1)), .int (sx (i + 2))] (ol_ sx sl lsS gsS) (ar T K os sc) (te_ tc tp tl_ tn trd tv tdg tf tla) (pl pg ph pc pm) (mo z sa ro te fr to un ga pi be bm en sta sv ln th hh) ov) (cont : ∀ (th : Int32) (ov : Nat → Int64) (h : AH), INV (ol_ sx sl lsS gsS) th ov h → ∃ h' : AH, AR E M_L_law 13 1822 [some (.ref 0), some (.ref 4096), some (.ref 16384), some (.ref 20480), some (.int (nI (i))), none, none, none, none] [] h (.inl (some (.int (nI 1)))) h' mc ms) : ∃ h' : AH, AR E M_L_law 13 372 [some (.ref 0), some (.ref 4096), some (.ref 16384), some (.ref 20480), some (.int (nI (i))), none, none, none, none] [] (hp (ol_ sx sl lsS gsS) (ar T K os sc) (te_ tc tp tl_ tn trd tv tdg tf tla) (pl pg ph pc pm) (mo z sa ro te fr to un ga pi be bm en sta sv ln th hh) (ou ov) []) (.inl (some (.int (nI 1)))) h' (mc + 1) (ms + 6) := by
  obtain ⟨k, b, a1, t1, p1, ov1, h2, mc1, ms1, hmc, hms, hL, hM, hI, he⟩ := hP
  obtain ⟨h', hc⟩ := cont k ov1 _ hI
  obtain ⟨T1, K1, os1, sc1, tc1, tp1, tl_1, tn1, trd1, tv1, tdg1, tf1, tla1, pg1, ph1, pc1, pm1, z1, sa1, ro1, te1, fr1, to1, un1, ga1, pi1, be1, bm1, en1, sta1, sv1, ln1, hh1, nv1, nc1, nr1, ne1, a9, b9, q9, rfl, -⟩ := id hI
  have he2 : k = 0 → ov1 0 = b.toInt64 := he
  refine ⟨h', AR.room (show mc1 + mc ≤ mc + 1 by omega) (show ms1 + ms ≤ ms + 6 by omega) ?_⟩
  refine AR.run g_L_law_372_5 378 [some (.ref 0), some (.ref 4096), some (.ref 16384), some (.ref 20480), some (.int (nI (i))), none, none, none, none] [.int ((nI (i)) + (nI (1))), .ref 0, .ref 4096] _ [] rfl trivial ?_
  refine AR.ald (n := 0) (e := (i + 1)) ok_L_law_378 (by first | rfl | (simp only [nI_add, pk_mul]; first | done | rfl)) rfl (by omega) (by first | decide | omega) ?_
  refine AR.run g_L_law_379_4 384 [some (.ref 0), some (.ref 4096), some (.ref 16384), some (.ref 20480), some (.int (nI (i))), none, none, none, none] [.int ((nI (i)) + (nI (2))), .ref 0, .int (sx (i + 1)), .ref 4096] _ [] rfl trivial ?_
  refine AR.ald (n := 0) (e := (i + 2)) ok_L_law_384 (by first | rfl | (simp only [nI_add, pk_mul]; first | done | rfl)) rfl (by omega) (by first | decide | omega) ?_
  refine AR.run g_L_law_385_1 386 [some (.ref 0), some (.ref 4096), some (.ref 16384), some (.ref 20480), some (.int (nI (i))), none, none, none, none] [.ref 20480, .int (sx (i + 2)), .int (sx (i + 1)), .ref 4096] _ [] rfl trivial ?_
  refine AR.callS (r := some (.int k)) (av := [.ref 4096, .int (sx (i + 1)), .int (sx (i + 2)), .ref 20480]) (rest := []) lk_L_113 dc_L_law_386 hL (by first | rfl | (simp only [nI_add, pk_mul]; first | done | rfl)) rfl ?_
  refine AR.cast (st' := [.int (k)]) rfl rfl rfl ?_
  refine AR.run g_L_law_389_6 397 [some (.ref 0), some (.ref 4096), some (.ref 16384), some (.ref 20480), some (.int (nI (i))), some (.int (k)), none, none, none] [.int ((nI (i)) + (nI (1))), .ref 0, .ref 16384] _ [] rfl trivial ?_
  refine AR.ald (n := 0) (e := (i + 1)) ok_L_law_397 (by first | rfl | (simp only [nI_add, pk_mul]; first | done | rfl)) rfl (by omega) (by first | decide | omega) ?_
  refine AR.run g_L_law_398_4 403 [some (.ref 0), some (.ref 4096), some (.ref 16384), some (.ref 20480), some (.int (nI (i))), some (.int (k)), none, none, none] [.int ((nI (i)) + (nI (2))), .ref 0, .int (sx (i + 1)), .ref 16384] _ [] rfl trivial ?_
  refine AR.ald (n := 0) (e := (i + 2)) ok_L_law_403 (by first | rfl | (simp only [nI_add, pk_mul]; first | done | rfl)) rfl (by omega) (by first | decide | omega) ?_
  refine AR.callV1 (16384) [.int (sx (i + 1)), .int (sx (i + 2))] [] lk_L_115 dc_L_law_404 rfl rfl hM (by first | rfl | (simp only [nI_add, pk_mul]; first | done | rfl)) rfl ?_
  refine AR.run g_L_law_407_2 410 [some (.ref 0), some (.ref 4096), some (.ref 16384), some (.ref 20480), some (.int (nI (i))), some (.int (k)), some (.int (b)), none, none] [.ref 16384] _ [] rfl trivial ?_
  refine AR.callV1 (16384) [] [] lk_L_102 dc_L_law_410 rfl rfl (s_thrown _) (by first | rfl | (simp only [nI_add, pk_mul]; first | done | rfl)) rfl ?_
  refine AR.run g_L_law_413_1 415 [some (.ref 0), some (.ref 4096), some (.ref 16384), some (.ref 20480), some (.int (nI (i))), some (.int (k)), some (.int (b)), none, none] [.int (k), .int (k)] _ [] rfl trivial ?_
  refine AR.eq2 (tgt := 420) dc_L_law_415 (by decide) (fun c415_1 => ?_) (fun c415_1 => absurd c415_1 (fun q => q rfl))
  refine AR.run g_L_law_420_1 422 [some (.ref 0), some (.ref 4096), some (.ref 16384), some (.ref 20480), some (.int (nI (i))), some (.int (k)), some (.int (b)), none, none] [.int (k)] _ [] rfl trivial ?_
  refine AR.ne (tgt := 437) dc_L_law_422 (by decide) (fun c422_2 => ?_) (fun c422_2 => ?_)
  · refine AR.run g_L_law_437_1 1822 [some (.ref 0), some (.ref 4096), some (.ref 16384), some (.ref 20480), some (.int (nI (i))), some (.int (k)), some (.int (b)), none, none] [] _ [] rfl trivial ?_
    refine AR.drop (L' := [some (.ref 0), some (.ref 4096), some (.ref 16384), some (.ref 20480), some (.int (nI (i))), none, none, none, none]) ⟨rfl, rfl, rfl, rfl, rfl, trivial⟩ ?_
    exact hc
  · refine AR.run g_L_law_425_2 427 [some (.ref 0), some (.ref 4096), some (.ref 16384), some (.ref 20480), some (.int (nI (i))), some (.int (k)), some (.int (b)), none, none] [.int (nI (0)), .ref 20480] _ [] rfl trivial ?_
    refine AR.lald (n := 0) (e := 0) ok_L_law_427 (by first | rfl | (simp only [nI_add, pk_mul]; first | done | rfl)) rfl (by omega) (by decide) ?_
    refine AR.run g_L_law_428_3 432 [some (.ref 0), some (.ref 4096), some (.ref 16384), some (.ref 20480), some (.int (nI (i))), some (.int (k)), some (.int (b)), none, none] [.int (lg_cmp (ov1 0) (b.toInt64))] _ [] rfl trivial ?_
    refine AR.eq (tgt := 437) dc_L_law_432 (by decide) (fun c432_3 => ?_) (fun c432_3 => absurd c432_3 (fun q9 => q9 (lcmp_eq (he2 (by assumption)))))
    refine AR.run g_L_law_437_1 1822 [some (.ref 0), some (.ref 4096), some (.ref 16384), some (.ref 20480), some (.int (nI (i))), some (.int (k)), some (.int (b)), none, none] [] _ [] rfl trivial ?_
    refine AR.drop (L' := [some (.ref 0), some (.ref 4096), some (.ref 16384), some (.ref 20480), some (.int (nI (i))), none, none, none, none]) ⟨rfl, rfl, rfl, rfl, rfl, trivial⟩ ?_
    exact hc
theorem g_L_law_440_5 : ab_oks M_L_law [(440, .aload_n 1, 1, 1, 0, 0, .null), (441, .aload_n 0, 1, 0, 0, 0, .null), (442, .iload 4, 2, 4, 0, 0, .null), (444, .iconst 1, 1, 0, 0, 0, .int (nI (1))), (445, .iadd, 1, 0, 0, 0, .null)] = true := by decide +kernel
theorem ok_L_law_446 : ab_ok M_L_law (446, .iaload, 1, 0, 0, 0, .null) = true := by decide +kernel
theorem g_L_law_447_1 : ab_oks M_L_law [(447, .aload_n 3, 1, 3, 0, 0, .null)] = true := by decide +kernel
theorem lk_L_116 : ab_lkS "LeafCradlesLaw" 116 M_L_setYear 3 [697, 698, 90, 699] = true := by decide +kernel
theorem dc_L_law_448 : decode (AM.bytes M_L_law) 448 = .ok (.invokestatic 116, 3) := by decide +kernel
theorem g_L_law_451_6 : ab_oks M_L_law [(451, .istore 5, 2, 5, 0, 0, .null), (453, .aload_n 2, 1, 2, 0, 0, .null), (454, .aload_n 0, 1, 0, 0, 0, .null), (455, .iload 4, 2, 4, 0, 0, .null), (457, .iconst 1, 1, 0, 0, 0, .int (nI (1))), (458, .iadd, 1, 0, 0, 0, .null)] = true := by decide +kernel
theorem ok_L_law_459 : ab_ok M_L_law (459, .iaload, 1, 0, 0, 0, .null) = true := by decide +kernel
theorem lk_L_119 : ab_lkV "LeafCradlesLaw" 119 M_X5_setYear 1 [1019, 1020, 1021, 97, 1022] = true := by decide +kernel
theorem dc_L_law_460 : decode (AM.bytes M_L_law) 460 = .ok (.invokevirtual 119, 3) := by decide +kernel
theorem g_L_law_463_2 : ab_oks M_L_law [(463, .istore 6, 2, 6, 0, 0, .null), (465, .aload_n 2, 1, 2, 0, 0, .null)] = true := by decide +kernel
theorem dc_L_law_466 : decode (AM.bytes M_L_law) 466 = .ok (.invokevirtual 102, 3) := by decide +kernel
theorem g_L_law_469_1 : ab_oks M_L_law [(469, .iload 5, 2, 5, 0, 0, .null)] = true := by decide +kernel
theorem dc_L_law_471 : decode (AM.bytes M_L_law) 471 = .ok (.if_icmp .eq 5, 3) := by decide +kernel
theorem g_L_law_476_1 : ab_oks M_L_law [(476, .iload 5, 2, 5, 0, 0, .null)] = true := by decide +kernel
theorem dc_L_law_478 : decode (AM.bytes M_L_law) 478 = .ok (.ifCond .ne 15, 3) := by decide +kernel
theorem g_L_law_493_1 : ab_oks M_L_law [(493, .goto 1329, 3, 1822, 0, 0, .null)] = true := by decide +kernel
theorem g_L_law_481_2 : ab_oks M_L_law [(481, .aload_n 3, 1, 3, 0, 0, .null), (482, .iconst 0, 1, 0, 0, 0, .int (nI (0)))] = true := by decide +kernel
theorem ok_L_law_483 : ab_ok M_L_law (483, .laload, 1, 0, 0, 0, .null) = true := by decide +kernel
theorem g_L_law_484_3 : ab_oks M_L_law [(484, .iload 6, 2, 6, 0, 0, .null), (486, .i2l, 1, 0, 0, 0, .null), (487, .lcmp, 1, 0, 0, 0, .null)] = true := by decide +kernel
theorem dc_L_law_488 : decode (AM.bytes M_L_law) 488 = .ok (.ifCond .eq 5, 3) := by decide +kernel
set_option maxRecDepth 100000 in
set_option maxHeartbeats 4000000 in
theorem la_4 {E : AE} {sx : Nat → Int32} {sl i mc ms : Nat} {T K : Nat → Nat → Int32} {os sc : Int32} {tc tp : Nat → Int32} {tl_ tn trd tv tdg tf tla : Int32} {pg ph pc : Nat → Int32} {pm : Int32} {z sa ro te fr to un ga pi be : Nat → Int32} {bm en sta sv ln th : Int32} {hh : Int64} {ov : Nat → Int64} (hi : i + 4 < sl) (hsl : sl < 100000) (hP : PO E M_L_setYear M_X5_setYear [.ref 4096, .int (sx (i + 1)), .ref 20480] [.ref 16384, .int (sx (i + 1))] (ol_ sx sl lsS gsS) (ar T K os sc) (te_ tc tp tl_ tn trd tv tdg tf tla) (pl pg ph pc pm) (mo z sa ro te fr to un ga pi be bm en sta sv ln th hh) ov) (cont : ∀ (th : Int32) (ov : Nat → Int64) (h : AH), INV (ol_ sx sl lsS gsS) th ov h → ∃ h' : AH, AR E M_L_law 13 1822 [some (.ref 0), some (.ref 4096), some (.ref 16384), some (.ref 20480), some (.int (nI (i))), none, none, none, none] [] h (.inl (some (.int (nI 1)))) h' mc ms) : ∃ h' : AH, AR E M_L_law 13 440 [some (.ref 0), some (.ref 4096), some (.ref 16384), some (.ref 20480), some (.int (nI (i))), none, none, none, none] [] (hp (ol_ sx sl lsS gsS) (ar T K os sc) (te_ tc tp tl_ tn trd tv tdg tf tla) (pl pg ph pc pm) (mo z sa ro te fr to un ga pi be bm en sta sv ln th hh) (ou ov) []) (.inl (some (.int (nI 1)))) h' (mc + 1) (ms + 6) := by
  obtain ⟨k, b, a1, t1, p1, ov1, h2, mc1, ms1, hmc, hms, hL, hM, hI, he⟩ := hP
  obtain ⟨h', hc⟩ := cont k ov1 _ hI
  obtain ⟨T1, K1, os1, sc1, tc1, tp1, tl_1, tn1, trd1, tv1, tdg1, tf1, tla1, pg1, ph1, pc1, pm1, z1, sa1, ro1, te1, fr1, to1, un1, ga1, pi1, be1, bm1, en1, sta1, sv1, ln1, hh1, nv1, nc1, nr1, ne1, a9, b9, q9, rfl, -⟩ := id hI
  have he2 : k = 0 → ov1 0 = b.toInt64 := he
  refine ⟨h', AR.room (show mc1 + mc ≤ mc + 1 by omega) (show ms1 + ms ≤ ms + 6 by omega) ?_⟩
  refine AR.run g_L_law_440_5 446 [some (.ref 0), some (.ref 4096), some (.ref 16384), some (.ref 20480), some (.int (nI (i))), none, none, none, none] [.int ((nI (i)) + (nI (1))), .ref 0, .ref 4096] _ [] rfl trivial ?_
  refine AR.ald (n := 0) (e := (i + 1)) ok_L_law_446 (by first | rfl | (simp only [nI_add, pk_mul]; first | done | rfl)) rfl (by omega) (by first | decide | omega) ?_
  refine AR.run g_L_law_447_1 448 [some (.ref 0), some (.ref 4096), some (.ref 16384), some (.ref 20480), some (.int (nI (i))), none, none, none, none] [.ref 20480, .int (sx (i + 1)), .ref 4096] _ [] rfl trivial ?_
  refine AR.callS (r := some (.int k)) (av := [.ref 4096, .int (sx (i + 1)), .ref 20480]) (rest := []) lk_L_116 dc_L_law_448 hL (by first | rfl | (simp only [nI_add, pk_mul]; first | done | rfl)) rfl ?_
  refine AR.cast (st' := [.int (k)]) rfl rfl rfl ?_
  refine AR.run g_L_law_451_6 459 [some (.ref 0), some (.ref 4096), some (.ref 16384), some (.ref 20480), some (.int (nI (i))), some (.int (k)), none, none, none] [.int ((nI (i)) + (nI (1))), .ref 0, .ref 16384] _ [] rfl trivial ?_
  refine AR.ald (n := 0) (e := (i + 1)) ok_L_law_459 (by first | rfl | (simp only [nI_add, pk_mul]; first | done | rfl)) rfl (by omega) (by first | decide | omega) ?_
  refine AR.callV1 (16384) [.int (sx (i + 1))] [] lk_L_119 dc_L_law_460 rfl rfl hM (by first | rfl | (simp only [nI_add, pk_mul]; first | done | rfl)) rfl ?_
  refine AR.run g_L_law_463_2 466 [some (.ref 0), some (.ref 4096), some (.ref 16384), some (.ref 20480), some (.int (nI (i))), some (.int (k)), some (.int (b)), none, none] [.ref 16384] _ [] rfl trivial ?_
  refine AR.callV1 (16384) [] [] lk_L_102 dc_L_law_466 rfl rfl (s_thrown _) (by first | rfl | (simp only [nI_add, pk_mul]; first | done | rfl)) rfl ?_
  refine AR.run g_L_law_469_1 471 [some (.ref 0), some (.ref 4096), some (.ref 16384), some (.ref 20480), some (.int (nI (i))), some (.int (k)), some (.int (b)), none, none] [.int (k), .int (k)] _ [] rfl trivial ?_
  refine AR.eq2 (tgt := 476) dc_L_law_471 (by decide) (fun c471_1 => ?_) (fun c471_1 => absurd c471_1 (fun q => q rfl))
  refine AR.run g_L_law_476_1 478 [some (.ref 0), some (.ref 4096), some (.ref 16384), some (.ref 20480), some (.int (nI (i))), some (.int (k)), some (.int (b)), none, none] [.int (k)] _ [] rfl trivial ?_
  refine AR.ne (tgt := 493) dc_L_law_478 (by decide) (fun c478_2 => ?_) (fun c478_2 => ?_)
  · refine AR.run g_L_law_493_1 1822 [some (.ref 0), some (.ref 4096), some (.ref 16384), some (.ref 20480), some (.int (nI (i))), some (.int (k)), some (.int (b)), none, none] [] _ [] rfl trivial ?_
    refine AR.drop (L' := [some (.ref 0), some (.ref 4096), some (.ref 16384), some (.ref 20480), some (.int (nI (i))), none, none, none, none]) ⟨rfl, rfl, rfl, rfl, rfl, trivial⟩ ?_
    exact hc
  · refine AR.run g_L_law_481_2 483 [some (.ref 0), some (.ref 4096), some (.ref 16384), some (.ref 20480), some (.int (nI (i))), some (.int (k)), some (.int (b)), none, none] [.int (nI (0)), .ref 20480] _ [] rfl trivial ?_
    refine AR.lald (n := 0) (e := 0) ok_L_law_483 (by first | rfl | (simp only [nI_add, pk_mul]; first | done | rfl)) rfl (by omega) (by decide) ?_
    refine AR.run g_L_law_484_3 488 [some (.ref 0), some (.ref 4096), some (.ref 16384), some (.ref 20480), some (.int (nI (i))), some (.int (k)), some (.int (b)), none, none] [.int (lg_cmp (ov1 0) (b.toInt64))] _ [] rfl trivial ?_
    refine AR.eq (tgt := 493) dc_L_law_488 (by decide) (fun c488_3 => ?_) (fun c488_3 => absurd c488_3 (fun q9 => q9 (lcmp_eq (he2 (by assumption)))))
    refine AR.run g_L_law_493_1 1822 [some (.ref 0), some (.ref 4096), some (.ref 16384), some (.ref 20480), some (.int (nI (i))), some (.int (k)), some (.int (b)), none, none] [] _ [] rfl trivial ?_
    refine AR.drop (L' := [some (.ref 0), some (.ref 4096), some (.ref 16384), some (.ref 20480), some (.int (nI (i))), none, none, none, none]) ⟨rfl, rfl, rfl, rfl, rfl, trivial⟩ ?_
    exact hc
theorem g_L_law_496_5 : ab_oks M_L_law [(496, .aload_n 1, 1, 1, 0, 0, .null), (497, .aload_n 0, 1, 0, 0, 0, .null), (498, .iload 4, 2, 4, 0, 0, .null), (500, .iconst 1, 1, 0, 0, 0, .int (nI (1))), (501, .iadd, 1, 0, 0, 0, .null)] = true := by decide +kernel
theorem ok_L_law_502 : ab_ok M_L_law (502, .iaload, 1, 0, 0, 0, .null) = true := by decide +kernel
theorem g_L_law_503_4 : ab_oks M_L_law [(503, .aload_n 0, 1, 0, 0, 0, .null), (504, .iload 4, 2, 4, 0, 0, .null), (506, .iconst 2, 1, 0, 0, 0, .int (nI (2))), (507, .iadd, 1, 0, 0, 0, .null)] = true := by decide +kernel
theorem ok_L_law_508 : ab_ok M_L_law (508, .iaload, 1, 0, 0, 0, .null) = true := by decide +kernel
theorem g_L_law_509_4 : ab_oks M_L_law [(509, .aload_n 0, 1, 0, 0, 0, .null), (510, .iload 4, 2, 4, 0, 0, .null), (512, .iconst 3, 1, 0, 0, 0, .int (nI (3))), (513, .iadd, 1, 0, 0, 0, .null)] = true := by decide +kernel
theorem ok_L_law_514 : ab_ok M_L_law (514, .iaload, 1, 0, 0, 0, .null) = true := by decide +kernel
theorem g_L_law_515_1 : ab_oks M_L_law [(515, .aload_n 3, 1, 3, 0, 0, .null)] = true := by decide +kernel
theorem lk_L_120 : ab_lkS "LeafCradlesLaw" 120 M_L_bring 5 [704, 705, 90, 706] = true := by decide +kernel
theorem dc_L_law_516 : decode (AM.bytes M_L_law) 516 = .ok (.invokestatic 120, 3) := by decide +kernel
theorem g_L_law_519_6 : ab_oks M_L_law [(519, .istore 5, 2, 5, 0, 0, .null), (521, .aload_n 2, 1, 2, 0, 0, .null), (522, .aload_n 0, 1, 0, 0, 0, .null), (523, .iload 4, 2, 4, 0, 0, .null), (525, .iconst 1, 1, 0, 0, 0, .int (nI (1))), (526, .iadd, 1, 0, 0, 0, .null)] = true := by decide +kernel
theorem ok_L_law_527 : ab_ok M_L_law (527, .iaload, 1, 0, 0, 0, .null) = true := by decide +kernel
theorem g_L_law_528_4 : ab_oks M_L_law [(528, .aload_n 0, 1, 0, 0, 0, .null), (529, .iload 4, 2, 4, 0, 0, .null), (531, .iconst 2, 1, 0, 0, 0, .int (nI (2))), (532, .iadd, 1, 0, 0, 0, .null)] = true := by decide +kernel
theorem ok_L_law_533 : ab_ok M_L_law (533, .iaload, 1, 0, 0, 0, .null) = true := by decide +kernel
theorem g_L_law_534_4 : ab_oks M_L_law [(534, .aload_n 0, 1, 0, 0, 0, .null), (535, .iload 4, 2, 4, 0, 0, .null), (537, .iconst 3, 1, 0, 0, 0, .int (nI (3))), (538, .iadd, 1, 0, 0, 0, .null)] = true := by decide +kernel
theorem ok_L_law_539 : ab_ok M_L_law (539, .iaload, 1, 0, 0, 0, .null) = true := by decide +kernel
theorem lk_L_123 : ab_lkV "LeafCradlesLaw" 123 M_X5_bring 3 [1023, 1024, 1025, 97, 1026] = true := by decide +kernel
theorem dc_L_law_540 : decode (AM.bytes M_L_law) 540 = .ok (.invokevirtual 123, 3) := by decide +kernel
theorem g_L_law_543_2 : ab_oks M_L_law [(543, .istore 6, 2, 6, 0, 0, .null), (545, .aload_n 2, 1, 2, 0, 0, .null)] = true := by decide +kernel
theorem dc_L_law_546 : decode (AM.bytes M_L_law) 546 = .ok (.invokevirtual 102, 3) := by decide +kernel
theorem g_L_law_549_1 : ab_oks M_L_law [(549, .iload 5, 2, 5, 0, 0, .null)] = true := by decide +kernel
theorem dc_L_law_551 : decode (AM.bytes M_L_law) 551 = .ok (.if_icmp .eq 5, 3) := by decide +kernel
theorem g_L_law_556_1 : ab_oks M_L_law [(556, .iload 5, 2, 5, 0, 0, .null)] = true := by decide +kernel
theorem dc_L_law_558 : decode (AM.bytes M_L_law) 558 = .ok (.ifCond .ne 15, 3) := by decide +kernel
theorem g_L_law_573_1 : ab_oks M_L_law [(573, .goto 1249, 3, 1822, 0, 0, .null)] = true := by decide +kernel
theorem g_L_law_561_2 : ab_oks M_L_law [(561, .aload_n 3, 1, 3, 0, 0, .null), (562, .iconst 0, 1, 0, 0, 0, .int (nI (0)))] = true := by decide +kernel
theorem ok_L_law_563 : ab_ok M_L_law (563, .laload, 1, 0, 0, 0, .null) = true := by decide +kernel
theorem g_L_law_564_3 : ab_oks M_L_law [(564, .iload 6, 2, 6, 0, 0, .null), (566, .i2l, 1, 0, 0, 0, .null), (567, .lcmp, 1, 0, 0, 0, .null)] = true := by decide +kernel
theorem dc_L_law_568 : decode (AM.bytes M_L_law) 568 = .ok (.ifCond .eq 5, 3) := by decide +kernel
set_option maxRecDepth 100000 in
set_option maxHeartbeats 4000000 in
theorem la_5 {E : AE} {sx : Nat → Int32} {sl i mc ms : Nat} {T K : Nat → Nat → Int32} {os sc : Int32} {tc tp : Nat → Int32} {tl_ tn trd tv tdg tf tla : Int32} {pg ph pc : Nat → Int32} {pm : Int32} {z sa ro te fr to un ga pi be : Nat → Int32} {bm en sta sv ln th : Int32} {hh : Int64} {ov : Nat → Int64} (hi : i + 4 < sl) (hsl : sl < 100000) (hP : PO E M_L_bring M_X5_bring [.ref 4096, .int (sx (i + 1)), .int (sx (i + 2)), .int (sx (i + 3)), .ref 20480] [.ref 16384, .int (sx (i + 1)), .int (sx (i + 2)), .int (sx (i + 3))] (ol_ sx sl lsS gsS) (ar T K os sc) (te_ tc tp tl_ tn trd tv tdg tf tla) (pl pg ph pc pm) (mo z sa ro te fr to un ga pi be bm en sta sv ln th hh) ov) (cont : ∀ (th : Int32) (ov : Nat → Int64) (h : AH), INV (ol_ sx sl lsS gsS) th ov h → ∃ h' : AH, AR E M_L_law 13 1822 [some (.ref 0), some (.ref 4096), some (.ref 16384), some (.ref 20480), some (.int (nI (i))), none, none, none, none] [] h (.inl (some (.int (nI 1)))) h' mc ms) : ∃ h' : AH, AR E M_L_law 13 496 [some (.ref 0), some (.ref 4096), some (.ref 16384), some (.ref 20480), some (.int (nI (i))), none, none, none, none] [] (hp (ol_ sx sl lsS gsS) (ar T K os sc) (te_ tc tp tl_ tn trd tv tdg tf tla) (pl pg ph pc pm) (mo z sa ro te fr to un ga pi be bm en sta sv ln th hh) (ou ov) []) (.inl (some (.int (nI 1)))) h' (mc + 1) (ms + 6) := by
  obtain ⟨k, b, a1, t1, p1, ov1, h2, mc1, ms1, hmc, hms, hL, hM, hI, he⟩ := hP
  obtain ⟨h', hc⟩ := cont k ov1 _ hI
  obtain ⟨T1, K1, os1, sc1, tc1, tp1, tl_1, tn1, trd1, tv1, tdg1, tf1, tla1, pg1, ph1, pc1, pm1, z1, sa1, ro1, te1, fr1, to1, un1, ga1, pi1, be1, bm1, en1, sta1, sv1, ln1, hh1, nv1, nc1, nr1, ne1, a9, b9, q9, rfl, -⟩ := id hI
  have he2 : k = 0 → ov1 0 = b.toInt64 := he
  refine ⟨h', AR.room (show mc1 + mc ≤ mc + 1 by omega) (show ms1 + ms ≤ ms + 6 by omega) ?_⟩
  refine AR.run g_L_law_496_5 502 [some (.ref 0), some (.ref 4096), some (.ref 16384), some (.ref 20480), some (.int (nI (i))), none, none, none, none] [.int ((nI (i)) + (nI (1))), .ref 0, .ref 4096] _ [] rfl trivial ?_
  refine AR.ald (n := 0) (e := (i + 1)) ok_L_law_502 (by first | rfl | (simp only [nI_add, pk_mul]; first | done | rfl)) rfl (by omega) (by first | decide | omega) ?_
  refine AR.run g_L_law_503_4 508 [some (.ref 0), some (.ref 4096), some (.ref 16384), some (.ref 20480), some (.int (nI (i))), none, none, none, none] [.int ((nI (i)) + (nI (2))), .ref 0, .int (sx (i + 1)), .ref 4096] _ [] rfl trivial ?_
  refine AR.ald (n := 0) (e := (i + 2)) ok_L_law_508 (by first | rfl | (simp only [nI_add, pk_mul]; first | done | rfl)) rfl (by omega) (by first | decide | omega) ?_
  refine AR.run g_L_law_509_4 514 [some (.ref 0), some (.ref 4096), some (.ref 16384), some (.ref 20480), some (.int (nI (i))), none, none, none, none] [.int ((nI (i)) + (nI (3))), .ref 0, .int (sx (i + 2)), .int (sx (i + 1)), .ref 4096] _ [] rfl trivial ?_
  refine AR.ald (n := 0) (e := (i + 3)) ok_L_law_514 (by first | rfl | (simp only [nI_add, pk_mul]; first | done | rfl)) rfl (by omega) (by first | decide | omega) ?_
  refine AR.run g_L_law_515_1 516 [some (.ref 0), some (.ref 4096), some (.ref 16384), some (.ref 20480), some (.int (nI (i))), none, none, none, none] [.ref 20480, .int (sx (i + 3)), .int (sx (i + 2)), .int (sx (i + 1)), .ref 4096] _ [] rfl trivial ?_
  refine AR.callS (r := some (.int k)) (av := [.ref 4096, .int (sx (i + 1)), .int (sx (i + 2)), .int (sx (i + 3)), .ref 20480]) (rest := []) lk_L_120 dc_L_law_516 hL (by first | rfl | (simp only [nI_add, pk_mul]; first | done | rfl)) rfl ?_
  refine AR.cast (st' := [.int (k)]) rfl rfl rfl ?_
  refine AR.run g_L_law_519_6 527 [some (.ref 0), some (.ref 4096), some (.ref 16384), some (.ref 20480), some (.int (nI (i))), some (.int (k)), none, none, none] [.int ((nI (i)) + (nI (1))), .ref 0, .ref 16384] _ [] rfl trivial ?_
  refine AR.ald (n := 0) (e := (i + 1)) ok_L_law_527 (by first | rfl | (simp only [nI_add, pk_mul]; first | done | rfl)) rfl (by omega) (by first | decide | omega) ?_
  refine AR.run g_L_law_528_4 533 [some (.ref 0), some (.ref 4096), some (.ref 16384), some (.ref 20480), some (.int (nI (i))), some (.int (k)), none, none, none] [.int ((nI (i)) + (nI (2))), .ref 0, .int (sx (i + 1)), .ref 16384] _ [] rfl trivial ?_
  refine AR.ald (n := 0) (e := (i + 2)) ok_L_law_533 (by first | rfl | (simp only [nI_add, pk_mul]; first | done | rfl)) rfl (by omega) (by first | decide | omega) ?_
  refine AR.run g_L_law_534_4 539 [some (.ref 0), some (.ref 4096), some (.ref 16384), some (.ref 20480), some (.int (nI (i))), some (.int (k)), none, none, none] [.int ((nI (i)) + (nI (3))), .ref 0, .int (sx (i + 2)), .int (sx (i + 1)), .ref 16384] _ [] rfl trivial ?_
  refine AR.ald (n := 0) (e := (i + 3)) ok_L_law_539 (by first | rfl | (simp only [nI_add, pk_mul]; first | done | rfl)) rfl (by omega) (by first | decide | omega) ?_
  refine AR.callV1 (16384) [.int (sx (i + 1)), .int (sx (i + 2)), .int (sx (i + 3))] [] lk_L_123 dc_L_law_540 rfl rfl hM (by first | rfl | (simp only [nI_add, pk_mul]; first | done | rfl)) rfl ?_
  refine AR.run g_L_law_543_2 546 [some (.ref 0), some (.ref 4096), some (.ref 16384), some (.ref 20480), some (.int (nI (i))), some (.int (k)), some (.int (b)), none, none] [.ref 16384] _ [] rfl trivial ?_
  refine AR.callV1 (16384) [] [] lk_L_102 dc_L_law_546 rfl rfl (s_thrown _) (by first | rfl | (simp only [nI_add, pk_mul]; first | done | rfl)) rfl ?_
  refine AR.run g_L_law_549_1 551 [some (.ref 0), some (.ref 4096), some (.ref 16384), some (.ref 20480), some (.int (nI (i))), some (.int (k)), some (.int (b)), none, none] [.int (k), .int (k)] _ [] rfl trivial ?_
  refine AR.eq2 (tgt := 556) dc_L_law_551 (by decide) (fun c551_1 => ?_) (fun c551_1 => absurd c551_1 (fun q => q rfl))
  refine AR.run g_L_law_556_1 558 [some (.ref 0), some (.ref 4096), some (.ref 16384), some (.ref 20480), some (.int (nI (i))), some (.int (k)), some (.int (b)), none, none] [.int (k)] _ [] rfl trivial ?_
  refine AR.ne (tgt := 573) dc_L_law_558 (by decide) (fun c558_2 => ?_) (fun c558_2 => ?_)
  · refine AR.run g_L_law_573_1 1822 [some (.ref 0), some (.ref 4096), some (.ref 16384), some (.ref 20480), some (.int (nI (i))), some (.int (k)), some (.int (b)), none, none] [] _ [] rfl trivial ?_
    refine AR.drop (L' := [some (.ref 0), some (.ref 4096), some (.ref 16384), some (.ref 20480), some (.int (nI (i))), none, none, none, none]) ⟨rfl, rfl, rfl, rfl, rfl, trivial⟩ ?_
    exact hc
  · refine AR.run g_L_law_561_2 563 [some (.ref 0), some (.ref 4096), some (.ref 16384), some (.ref 20480), some (.int (nI (i))), some (.int (k)), some (.int (b)), none, none] [.int (nI (0)), .ref 20480] _ [] rfl trivial ?_
    refine AR.lald (n := 0) (e := 0) ok_L_law_563 (by first | rfl | (simp only [nI_add, pk_mul]; first | done | rfl)) rfl (by omega) (by decide) ?_
    refine AR.run g_L_law_564_3 568 [some (.ref 0), some (.ref 4096), some (.ref 16384), some (.ref 20480), some (.int (nI (i))), some (.int (k)), some (.int (b)), none, none] [.int (lg_cmp (ov1 0) (b.toInt64))] _ [] rfl trivial ?_
    refine AR.eq (tgt := 573) dc_L_law_568 (by decide) (fun c568_3 => ?_) (fun c568_3 => absurd c568_3 (fun q9 => q9 (lcmp_eq (he2 (by assumption)))))
    refine AR.run g_L_law_573_1 1822 [some (.ref 0), some (.ref 4096), some (.ref 16384), some (.ref 20480), some (.int (nI (i))), some (.int (k)), some (.int (b)), none, none] [] _ [] rfl trivial ?_
    refine AR.drop (L' := [some (.ref 0), some (.ref 4096), some (.ref 16384), some (.ref 20480), some (.int (nI (i))), none, none, none, none]) ⟨rfl, rfl, rfl, rfl, rfl, trivial⟩ ?_
    exact hc
theorem g_L_law_576_5 : ab_oks M_L_law [(576, .aload_n 1, 1, 1, 0, 0, .null), (577, .aload_n 0, 1, 0, 0, 0, .null), (578, .iload 4, 2, 4, 0, 0, .null), (580, .iconst 1, 1, 0, 0, 0, .int (nI (1))), (581, .iadd, 1, 0, 0, 0, .null)] = true := by decide +kernel
theorem ok_L_law_582 : ab_ok M_L_law (582, .iaload, 1, 0, 0, 0, .null) = true := by decide +kernel
theorem g_L_law_583_4 : ab_oks M_L_law [(583, .aload_n 0, 1, 0, 0, 0, .null), (584, .iload 4, 2, 4, 0, 0, .null), (586, .iconst 2, 1, 0, 0, 0, .int (nI (2))), (587, .iadd, 1, 0, 0, 0, .null)] = true := by decide +kernel
theorem ok_L_law_588 : ab_ok M_L_law (588, .iaload, 1, 0, 0, 0, .null) = true := by decide +kernel
theorem g_L_law_589_1 : ab_oks M_L_law [(589, .aload_n 3, 1, 3, 0, 0, .null)] = true := by decide +kernel
theorem lk_L_124 : ab_lkS "LeafCradlesLaw" 124 M_L_takeBack 4 [737, 738, 90, 739] = true := by decide +kernel
theorem dc_L_law_590 : decode (AM.bytes M_L_law) 590 = .ok (.invokestatic 124, 3) := by decide +kernel
theorem g_L_law_593_6 : ab_oks M_L_law [(593, .istore 5, 2, 5, 0, 0, .null), (595, .aload_n 2, 1, 2, 0, 0, .null), (596, .aload_n 0, 1, 0, 0, 0, .null), (597, .iload 4, 2, 4, 0, 0, .null), (599, .iconst 1, 1, 0, 0, 0, .int (nI (1))), (600, .iadd, 1, 0, 0, 0, .null)] = true := by decide +kernel
theorem ok_L_law_601 : ab_ok M_L_law (601, .iaload, 1, 0, 0, 0, .null) = true := by decide +kernel
theorem g_L_law_602_4 : ab_oks M_L_law [(602, .aload_n 0, 1, 0, 0, 0, .null), (603, .iload 4, 2, 4, 0, 0, .null), (605, .iconst 2, 1, 0, 0, 0, .int (nI (2))), (606, .iadd, 1, 0, 0, 0, .null)] = true := by decide +kernel
theorem ok_L_law_607 : ab_ok M_L_law (607, .iaload, 1, 0, 0, 0, .null) = true := by decide +kernel
theorem lk_L_126 : ab_lkV "LeafCradlesLaw" 126 M_X5_takeBack 2 [1079, 1080, 1081, 97, 1082] = true := by decide +kernel
theorem dc_L_law_608 : decode (AM.bytes M_L_law) 608 = .ok (.invokevirtual 126, 3) := by decide +kernel
theorem g_L_law_611_2 : ab_oks M_L_law [(611, .istore 6, 2, 6, 0, 0, .null), (613, .aload_n 2, 1, 2, 0, 0, .null)] = true := by decide +kernel
theorem dc_L_law_614 : decode (AM.bytes M_L_law) 614 = .ok (.invokevirtual 102, 3) := by decide +kernel
theorem g_L_law_617_1 : ab_oks M_L_law [(617, .iload 5, 2, 5, 0, 0, .null)] = true := by decide +kernel
theorem dc_L_law_619 : decode (AM.bytes M_L_law) 619 = .ok (.if_icmp .eq 5, 3) := by decide +kernel
theorem g_L_law_624_1 : ab_oks M_L_law [(624, .iload 5, 2, 5, 0, 0, .null)] = true := by decide +kernel
theorem dc_L_law_626 : decode (AM.bytes M_L_law) 626 = .ok (.ifCond .ne 15, 3) := by decide +kernel
theorem g_L_law_641_1 : ab_oks M_L_law [(641, .goto 1181, 3, 1822, 0, 0, .null)] = true := by decide +kernel
theorem g_L_law_629_2 : ab_oks M_L_law [(629, .aload_n 3, 1, 3, 0, 0, .null), (630, .iconst 0, 1, 0, 0, 0, .int (nI (0)))] = true := by decide +kernel
theorem ok_L_law_631 : ab_ok M_L_law (631, .laload, 1, 0, 0, 0, .null) = true := by decide +kernel
theorem g_L_law_632_3 : ab_oks M_L_law [(632, .iload 6, 2, 6, 0, 0, .null), (634, .i2l, 1, 0, 0, 0, .null), (635, .lcmp, 1, 0, 0, 0, .null)] = true := by decide +kernel
theorem dc_L_law_636 : decode (AM.bytes M_L_law) 636 = .ok (.ifCond .eq 5, 3) := by decide +kernel
set_option maxRecDepth 100000 in
set_option maxHeartbeats 4000000 in
theorem la_6 {E : AE} {sx : Nat → Int32} {sl i mc ms : Nat} {T K : Nat → Nat → Int32} {os sc : Int32} {tc tp : Nat → Int32} {tl_ tn trd tv tdg tf tla : Int32} {pg ph pc : Nat → Int32} {pm : Int32} {z sa ro te fr to un ga pi be : Nat → Int32} {bm en sta sv ln th : Int32} {hh : Int64} {ov : Nat → Int64} (hi : i + 4 < sl) (hsl : sl < 100000) (hP : PO E M_L_takeBack M_X5_takeBack [.ref 4096, .int (sx (i + 1)), .int (sx (i + 2)), .ref 20480] [.ref 16384, .int (sx (i + 1)), .int (sx (i + 2))] (ol_ sx sl lsS gsS) (ar T K os sc) (te_ tc tp tl_ tn trd tv tdg tf tla) (pl pg ph pc pm) (mo z sa ro te fr to un ga pi be bm en sta sv ln th hh) ov) (cont : ∀ (th : Int32) (ov : Nat → Int64) (h : AH), INV (ol_ sx sl lsS gsS) th ov h → ∃ h' : AH, AR E M_L_law 13 1822 [some (.ref 0), some (.ref 4096), some (.ref 16384), some (.ref 20480), some (.int (nI (i))), none, none, none, none] [] h (.inl (some (.int (nI 1)))) h' mc ms) : ∃ h' : AH, AR E M_L_law 13 576 [some (.ref 0), some (.ref 4096), some (.ref 16384), some (.ref 20480), some (.int (nI (i))), none, none, none, none] [] (hp (ol_ sx sl lsS gsS) (ar T K os sc) (te_ tc tp tl_ tn trd tv tdg tf tla) (pl pg ph pc pm) (mo z sa ro te fr to un ga pi be bm en sta sv ln th hh) (ou ov) []) (.inl (some (.int (nI 1)))) h' (mc + 1) (ms + 6) := by
  obtain ⟨k, b, a1, t1, p1, ov1, h2, mc1, ms1, hmc, hms, hL, hM, hI, he⟩ := hP
  obtain ⟨h', hc⟩ := cont k ov1 _ hI
  obtain ⟨T1, K1, os1, sc1, tc1, tp1, tl_1, tn1, trd1, tv1, tdg1, tf1, tla1, pg1, ph1, pc1, pm1, z1, sa1, ro1, te1, fr1, to1, un1, ga1, pi1, be1, bm1, en1, sta1, sv1, ln1, hh1, nv1, nc1, nr1, ne1, a9, b9, q9, rfl, -⟩ := id hI
  have he2 : k = 0 → ov1 0 = b.toInt64 := he
  refine ⟨h', AR.room (show mc1 + mc ≤ mc + 1 by omega) (show ms1 + ms ≤ ms + 6 by omega) ?_⟩
  refine AR.run g_L_law_576_5 582 [some (.ref 0), some (.ref 4096), some (.ref 16384), some (.ref 20480), some (.int (nI (i))), none, none, none, none] [.int ((nI (i)) + (nI (1))), .ref 0, .ref 4096] _ [] rfl trivial ?_
  refine AR.ald (n := 0) (e := (i + 1)) ok_L_law_582 (by first | rfl | (simp only [nI_add, pk_mul]; first | done | rfl)) rfl (by omega) (by first | decide | omega) ?_
  refine AR.run g_L_law_583_4 588 [some (.ref 0), some (.ref 4096), some (.ref 16384), some (.ref 20480), some (.int (nI (i))), none, none, none, none] [.int ((nI (i)) + (nI (2))), .ref 0, .int (sx (i + 1)), .ref 4096] _ [] rfl trivial ?_
  refine AR.ald (n := 0) (e := (i + 2)) ok_L_law_588 (by first | rfl | (simp only [nI_add, pk_mul]; first | done | rfl)) rfl (by omega) (by first | decide | omega) ?_
  refine AR.run g_L_law_589_1 590 [some (.ref 0), some (.ref 4096), some (.ref 16384), some (.ref 20480), some (.int (nI (i))), none, none, none, none] [.ref 20480, .int (sx (i + 2)), .int (sx (i + 1)), .ref 4096] _ [] rfl trivial ?_
  refine AR.callS (r := some (.int k)) (av := [.ref 4096, .int (sx (i + 1)), .int (sx (i + 2)), .ref 20480]) (rest := []) lk_L_124 dc_L_law_590 hL (by first | rfl | (simp only [nI_add, pk_mul]; first | done | rfl)) rfl ?_
  refine AR.cast (st' := [.int (k)]) rfl rfl rfl ?_
  refine AR.run g_L_law_593_6 601 [some (.ref 0), some (.ref 4096), some (.ref 16384), some (.ref 20480), some (.int (nI (i))), some (.int (k)), none, none, none] [.int ((nI (i)) + (nI (1))), .ref 0, .ref 16384] _ [] rfl trivial ?_
  refine AR.ald (n := 0) (e := (i + 1)) ok_L_law_601 (by first | rfl | (simp only [nI_add, pk_mul]; first | done | rfl)) rfl (by omega) (by first | decide | omega) ?_
  refine AR.run g_L_law_602_4 607 [some (.ref 0), some (.ref 4096), some (.ref 16384), some (.ref 20480), some (.int (nI (i))), some (.int (k)), none, none, none] [.int ((nI (i)) + (nI (2))), .ref 0, .int (sx (i + 1)), .ref 16384] _ [] rfl trivial ?_
  refine AR.ald (n := 0) (e := (i + 2)) ok_L_law_607 (by first | rfl | (simp only [nI_add, pk_mul]; first | done | rfl)) rfl (by omega) (by first | decide | omega) ?_
  refine AR.callV1 (16384) [.int (sx (i + 1)), .int (sx (i + 2))] [] lk_L_126 dc_L_law_608 rfl rfl hM (by first | rfl | (simp only [nI_add, pk_mul]; first | done | rfl)) rfl ?_
  refine AR.run g_L_law_611_2 614 [some (.ref 0), some (.ref 4096), some (.ref 16384), some (.ref 20480), some (.int (nI (i))), some (.int (k)), some (.int (b)), none, none] [.ref 16384] _ [] rfl trivial ?_
  refine AR.callV1 (16384) [] [] lk_L_102 dc_L_law_614 rfl rfl (s_thrown _) (by first | rfl | (simp only [nI_add, pk_mul]; first | done | rfl)) rfl ?_
  refine AR.run g_L_law_617_1 619 [some (.ref 0), some (.ref 4096), some (.ref 16384), some (.ref 20480), some (.int (nI (i))), some (.int (k)), some (.int (b)), none, none] [.int (k), .int (k)] _ [] rfl trivial ?_
  refine AR.eq2 (tgt := 624) dc_L_law_619 (by decide) (fun c619_1 => ?_) (fun c619_1 => absurd c619_1 (fun q => q rfl))
  refine AR.run g_L_law_624_1 626 [some (.ref 0), some (.ref 4096), some (.ref 16384), some (.ref 20480), some (.int (nI (i))), some (.int (k)), some (.int (b)), none, none] [.int (k)] _ [] rfl trivial ?_
  refine AR.ne (tgt := 641) dc_L_law_626 (by decide) (fun c626_2 => ?_) (fun c626_2 => ?_)
  · refine AR.run g_L_law_641_1 1822 [some (.ref 0), some (.ref 4096), some (.ref 16384), some (.ref 20480), some (.int (nI (i))), some (.int (k)), some (.int (b)), none, none] [] _ [] rfl trivial ?_
    refine AR.drop (L' := [some (.ref 0), some (.ref 4096), some (.ref 16384), some (.ref 20480), some (.int (nI (i))), none, none, none, none]) ⟨rfl, rfl, rfl, rfl, rfl, trivial⟩ ?_
    exact hc
  · refine AR.run g_L_law_629_2 631 [some (.ref 0), some (.ref 4096), some (.ref 16384), some (.ref 20480), some (.int (nI (i))), some (.int (k)), some (.int (b)), none, none] [.int (nI (0)), .ref 20480] _ [] rfl trivial ?_
    refine AR.lald (n := 0) (e := 0) ok_L_law_631 (by first | rfl | (simp only [nI_add, pk_mul]; first | done | rfl)) rfl (by omega) (by decide) ?_
    refine AR.run g_L_law_632_3 636 [some (.ref 0), some (.ref 4096), some (.ref 16384), some (.ref 20480), some (.int (nI (i))), some (.int (k)), some (.int (b)), none, none] [.int (lg_cmp (ov1 0) (b.toInt64))] _ [] rfl trivial ?_
    refine AR.eq (tgt := 641) dc_L_law_636 (by decide) (fun c636_3 => ?_) (fun c636_3 => absurd c636_3 (fun q9 => q9 (lcmp_eq (he2 (by assumption)))))
    refine AR.run g_L_law_641_1 1822 [some (.ref 0), some (.ref 4096), some (.ref 16384), some (.ref 20480), some (.int (nI (i))), some (.int (k)), some (.int (b)), none, none] [] _ [] rfl trivial ?_
    refine AR.drop (L' := [some (.ref 0), some (.ref 4096), some (.ref 16384), some (.ref 20480), some (.int (nI (i))), none, none, none, none]) ⟨rfl, rfl, rfl, rfl, rfl, trivial⟩ ?_
    exact hc
theorem g_L_law_644_5 : ab_oks M_L_law [(644, .aload_n 1, 1, 1, 0, 0, .null), (645, .aload_n 0, 1, 0, 0, 0, .null), (646, .iload 4, 2, 4, 0, 0, .null), (648, .iconst 1, 1, 0, 0, 0, .int (nI (1))), (649, .iadd, 1, 0, 0, 0, .null)] = true := by decide +kernel
theorem ok_L_law_650 : ab_ok M_L_law (650, .iaload, 1, 0, 0, 0, .null) = true := by decide +kernel
theorem g_L_law_651_1 : ab_oks M_L_law [(651, .aload_n 3, 1, 3, 0, 0, .null)] = true := by decide +kernel
theorem lk_L_127 : ab_lkS "LeafCradlesLaw" 127 M_L_pass 3 [753, 754, 90, 755] = true := by decide +kernel
theorem dc_L_law_652 : decode (AM.bytes M_L_law) 652 = .ok (.invokestatic 127, 3) := by decide +kernel
theorem g_L_law_655_6 : ab_oks M_L_law [(655, .istore 5, 2, 5, 0, 0, .null), (657, .aload_n 2, 1, 2, 0, 0, .null), (658, .aload_n 0, 1, 0, 0, 0, .null), (659, .iload 4, 2, 4, 0, 0, .null), (661, .iconst 1, 1, 0, 0, 0, .int (nI (1))), (662, .iadd, 1, 0, 0, 0, .null)] = true := by decide +kernel
theorem ok_L_law_663 : ab_ok M_L_law (663, .iaload, 1, 0, 0, 0, .null) = true := by decide +kernel
theorem lk_L_129 : ab_lkV "LeafCradlesLaw" 129 M_X5_pass 1 [1083, 1084, 1085, 97, 1086] = true := by decide +kernel
theorem dc_L_law_664 : decode (AM.bytes M_L_law) 664 = .ok (.invokevirtual 129, 3) := by decide +kernel
theorem g_L_law_667_2 : ab_oks M_L_law [(667, .istore 6, 2, 6, 0, 0, .null), (669, .aload_n 2, 1, 2, 0, 0, .null)] = true := by decide +kernel
theorem dc_L_law_670 : decode (AM.bytes M_L_law) 670 = .ok (.invokevirtual 102, 3) := by decide +kernel
theorem g_L_law_673_1 : ab_oks M_L_law [(673, .iload 5, 2, 5, 0, 0, .null)] = true := by decide +kernel
theorem dc_L_law_675 : decode (AM.bytes M_L_law) 675 = .ok (.if_icmp .eq 5, 3) := by decide +kernel
theorem g_L_law_680_1 : ab_oks M_L_law [(680, .iload 5, 2, 5, 0, 0, .null)] = true := by decide +kernel
theorem dc_L_law_682 : decode (AM.bytes M_L_law) 682 = .ok (.ifCond .ne 15, 3) := by decide +kernel
theorem g_L_law_697_1 : ab_oks M_L_law [(697, .goto 1125, 3, 1822, 0, 0, .null)] = true := by decide +kernel
theorem g_L_law_685_2 : ab_oks M_L_law [(685, .aload_n 3, 1, 3, 0, 0, .null), (686, .iconst 0, 1, 0, 0, 0, .int (nI (0)))] = true := by decide +kernel
theorem ok_L_law_687 : ab_ok M_L_law (687, .laload, 1, 0, 0, 0, .null) = true := by decide +kernel
theorem g_L_law_688_3 : ab_oks M_L_law [(688, .iload 6, 2, 6, 0, 0, .null), (690, .i2l, 1, 0, 0, 0, .null), (691, .lcmp, 1, 0, 0, 0, .null)] = true := by decide +kernel
theorem dc_L_law_692 : decode (AM.bytes M_L_law) 692 = .ok (.ifCond .eq 5, 3) := by decide +kernel
set_option maxRecDepth 100000 in
set_option maxHeartbeats 4000000 in
theorem la_7 {E : AE} {sx : Nat → Int32} {sl i mc ms : Nat} {T K : Nat → Nat → Int32} {os sc : Int32} {tc tp : Nat → Int32} {tl_ tn trd tv tdg tf tla : Int32} {pg ph pc : Nat → Int32} {pm : Int32} {z sa ro te fr to un ga pi be : Nat → Int32} {bm en sta sv ln th : Int32} {hh : Int64} {ov : Nat → Int64} (hi : i + 4 < sl) (hsl : sl < 100000) (hP : PO E M_L_pass M_X5_pass [.ref 4096, .int (sx (i + 1)), .ref 20480] [.ref 16384, .int (sx (i + 1))] (ol_ sx sl lsS gsS) (ar T K os sc) (te_ tc tp tl_ tn trd tv tdg tf tla) (pl pg ph pc pm) (mo z sa ro te fr to un ga pi be bm en sta sv ln th hh) ov) (cont : ∀ (th : Int32) (ov : Nat → Int64) (h : AH), INV (ol_ sx sl lsS gsS) th ov h → ∃ h' : AH, AR E M_L_law 13 1822 [some (.ref 0), some (.ref 4096), some (.ref 16384), some (.ref 20480), some (.int (nI (i))), none, none, none, none] [] h (.inl (some (.int (nI 1)))) h' mc ms) : ∃ h' : AH, AR E M_L_law 13 644 [some (.ref 0), some (.ref 4096), some (.ref 16384), some (.ref 20480), some (.int (nI (i))), none, none, none, none] [] (hp (ol_ sx sl lsS gsS) (ar T K os sc) (te_ tc tp tl_ tn trd tv tdg tf tla) (pl pg ph pc pm) (mo z sa ro te fr to un ga pi be bm en sta sv ln th hh) (ou ov) []) (.inl (some (.int (nI 1)))) h' (mc + 1) (ms + 6) := by
  obtain ⟨k, b, a1, t1, p1, ov1, h2, mc1, ms1, hmc, hms, hL, hM, hI, he⟩ := hP
  obtain ⟨h', hc⟩ := cont k ov1 _ hI
  obtain ⟨T1, K1, os1, sc1, tc1, tp1, tl_1, tn1, trd1, tv1, tdg1, tf1, tla1, pg1, ph1, pc1, pm1, z1, sa1, ro1, te1, fr1, to1, un1, ga1, pi1, be1, bm1, en1, sta1, sv1, ln1, hh1, nv1, nc1, nr1, ne1, a9, b9, q9, rfl, -⟩ := id hI
  have he2 : k = 0 → ov1 0 = b.toInt64 := he
  refine ⟨h', AR.room (show mc1 + mc ≤ mc + 1 by omega) (show ms1 + ms ≤ ms + 6 by omega) ?_⟩
  refine AR.run g_L_law_644_5 650 [some (.ref 0), some (.ref 4096), some (.ref 16384), some (.ref 20480), some (.int (nI (i))), none, none, none, none] [.int ((nI (i)) + (nI (1))), .ref 0, .ref 4096] _ [] rfl trivial ?_
  refine AR.ald (n := 0) (e := (i + 1)) ok_L_law_650 (by first | rfl | (simp only [nI_add, pk_mul]; first | done | rfl)) rfl (by omega) (by first | decide | omega) ?_
  refine AR.run g_L_law_651_1 652 [some (.ref 0), some (.ref 4096), some (.ref 16384), some (.ref 20480), some (.int (nI (i))), none, none, none, none] [.ref 20480, .int (sx (i + 1)), .ref 4096] _ [] rfl trivial ?_
  refine AR.callS (r := some (.int k)) (av := [.ref 4096, .int (sx (i + 1)), .ref 20480]) (rest := []) lk_L_127 dc_L_law_652 hL (by first | rfl | (simp only [nI_add, pk_mul]; first | done | rfl)) rfl ?_
  refine AR.cast (st' := [.int (k)]) rfl rfl rfl ?_
  refine AR.run g_L_law_655_6 663 [some (.ref 0), some (.ref 4096), some (.ref 16384), some (.ref 20480), some (.int (nI (i))), some (.int (k)), none, none, none] [.int ((nI (i)) + (nI (1))), .ref 0, .ref 16384] _ [] rfl trivial ?_
  refine AR.ald (n := 0) (e := (i + 1)) ok_L_law_663 (by first | rfl | (simp only [nI_add, pk_mul]; first | done | rfl)) rfl (by omega) (by first | decide | omega) ?_
  refine AR.callV1 (16384) [.int (sx (i + 1))] [] lk_L_129 dc_L_law_664 rfl rfl hM (by first | rfl | (simp only [nI_add, pk_mul]; first | done | rfl)) rfl ?_
  refine AR.run g_L_law_667_2 670 [some (.ref 0), some (.ref 4096), some (.ref 16384), some (.ref 20480), some (.int (nI (i))), some (.int (k)), some (.int (b)), none, none] [.ref 16384] _ [] rfl trivial ?_
  refine AR.callV1 (16384) [] [] lk_L_102 dc_L_law_670 rfl rfl (s_thrown _) (by first | rfl | (simp only [nI_add, pk_mul]; first | done | rfl)) rfl ?_
  refine AR.run g_L_law_673_1 675 [some (.ref 0), some (.ref 4096), some (.ref 16384), some (.ref 20480), some (.int (nI (i))), some (.int (k)), some (.int (b)), none, none] [.int (k), .int (k)] _ [] rfl trivial ?_
  refine AR.eq2 (tgt := 680) dc_L_law_675 (by decide) (fun c675_1 => ?_) (fun c675_1 => absurd c675_1 (fun q => q rfl))
  refine AR.run g_L_law_680_1 682 [some (.ref 0), some (.ref 4096), some (.ref 16384), some (.ref 20480), some (.int (nI (i))), some (.int (k)), some (.int (b)), none, none] [.int (k)] _ [] rfl trivial ?_
  refine AR.ne (tgt := 697) dc_L_law_682 (by decide) (fun c682_2 => ?_) (fun c682_2 => ?_)
  · refine AR.run g_L_law_697_1 1822 [some (.ref 0), some (.ref 4096), some (.ref 16384), some (.ref 20480), some (.int (nI (i))), some (.int (k)), some (.int (b)), none, none] [] _ [] rfl trivial ?_
    refine AR.drop (L' := [some (.ref 0), some (.ref 4096), some (.ref 16384), some (.ref 20480), some (.int (nI (i))), none, none, none, none]) ⟨rfl, rfl, rfl, rfl, rfl, trivial⟩ ?_
    exact hc
  · refine AR.run g_L_law_685_2 687 [some (.ref 0), some (.ref 4096), some (.ref 16384), some (.ref 20480), some (.int (nI (i))), some (.int (k)), some (.int (b)), none, none] [.int (nI (0)), .ref 20480] _ [] rfl trivial ?_
    refine AR.lald (n := 0) (e := 0) ok_L_law_687 (by first | rfl | (simp only [nI_add, pk_mul]; first | done | rfl)) rfl (by omega) (by decide) ?_
    refine AR.run g_L_law_688_3 692 [some (.ref 0), some (.ref 4096), some (.ref 16384), some (.ref 20480), some (.int (nI (i))), some (.int (k)), some (.int (b)), none, none] [.int (lg_cmp (ov1 0) (b.toInt64))] _ [] rfl trivial ?_
    refine AR.eq (tgt := 697) dc_L_law_692 (by decide) (fun c692_3 => ?_) (fun c692_3 => absurd c692_3 (fun q9 => q9 (lcmp_eq (he2 (by assumption)))))
    refine AR.run g_L_law_697_1 1822 [some (.ref 0), some (.ref 4096), some (.ref 16384), some (.ref 20480), some (.int (nI (i))), some (.int (k)), some (.int (b)), none, none] [] _ [] rfl trivial ?_
    refine AR.drop (L' := [some (.ref 0), some (.ref 4096), some (.ref 16384), some (.ref 20480), some (.int (nI (i))), none, none, none, none]) ⟨rfl, rfl, rfl, rfl, rfl, trivial⟩ ?_
    exact hc
theorem g_L_law_700_5 : ab_oks M_L_law [(700, .aload_n 1, 1, 1, 0, 0, .null), (701, .aload_n 0, 1, 0, 0, 0, .null), (702, .iload 4, 2, 4, 0, 0, .null), (704, .iconst 1, 1, 0, 0, 0, .int (nI (1))), (705, .iadd, 1, 0, 0, 0, .null)] = true := by decide +kernel
theorem ok_L_law_706 : ab_ok M_L_law (706, .iaload, 1, 0, 0, 0, .null) = true := by decide +kernel
theorem g_L_law_707_4 : ab_oks M_L_law [(707, .aload_n 0, 1, 0, 0, 0, .null), (708, .iload 4, 2, 4, 0, 0, .null), (710, .iconst 2, 1, 0, 0, 0, .int (nI (2))), (711, .iadd, 1, 0, 0, 0, .null)] = true := by decide +kernel
theorem ok_L_law_712 : ab_ok M_L_law (712, .iaload, 1, 0, 0, 0, .null) = true := by decide +kernel
theorem g_L_law_713_1 : ab_oks M_L_law [(713, .aload_n 3, 1, 3, 0, 0, .null)] = true := by decide +kernel
theorem lk_L_130 : ab_lkS "LeafCradlesLaw" 130 M_L_reject 4 [765, 766, 90, 767] = true := by decide +kernel
theorem dc_L_law_714 : decode (AM.bytes M_L_law) 714 = .ok (.invokestatic 130, 3) := by decide +kernel
theorem g_L_law_717_6 : ab_oks M_L_law [(717, .istore 5, 2, 5, 0, 0, .null), (719, .aload_n 2, 1, 2, 0, 0, .null), (720, .aload_n 0, 1, 0, 0, 0, .null), (721, .iload 4, 2, 4, 0, 0, .null), (723, .iconst 1, 1, 0, 0, 0, .int (nI (1))), (724, .iadd, 1, 0, 0, 0, .null)] = true := by decide +kernel
theorem ok_L_law_725 : ab_ok M_L_law (725, .iaload, 1, 0, 0, 0, .null) = true := by decide +kernel
theorem g_L_law_726_4 : ab_oks M_L_law [(726, .aload_n 0, 1, 0, 0, 0, .null), (727, .iload 4, 2, 4, 0, 0, .null), (729, .iconst 2, 1, 0, 0, 0, .int (nI (2))), (730, .iadd, 1, 0, 0, 0, .null)] = true := by decide +kernel
theorem ok_L_law_731 : ab_ok M_L_law (731, .iaload, 1, 0, 0, 0, .null) = true := by decide +kernel
theorem lk_L_132 : ab_lkV "LeafCradlesLaw" 132 M_X5_reject 2 [1099, 1100, 1101, 97, 1102] = true := by decide +kernel
theorem dc_L_law_732 : decode (AM.bytes M_L_law) 732 = .ok (.invokevirtual 132, 3) := by decide +kernel
theorem g_L_law_735_2 : ab_oks M_L_law [(735, .istore 6, 2, 6, 0, 0, .null), (737, .aload_n 2, 1, 2, 0, 0, .null)] = true := by decide +kernel
theorem dc_L_law_738 : decode (AM.bytes M_L_law) 738 = .ok (.invokevirtual 102, 3) := by decide +kernel
theorem g_L_law_741_1 : ab_oks M_L_law [(741, .iload 5, 2, 5, 0, 0, .null)] = true := by decide +kernel
theorem dc_L_law_743 : decode (AM.bytes M_L_law) 743 = .ok (.if_icmp .eq 5, 3) := by decide +kernel
theorem g_L_law_748_1 : ab_oks M_L_law [(748, .iload 5, 2, 5, 0, 0, .null)] = true := by decide +kernel
theorem dc_L_law_750 : decode (AM.bytes M_L_law) 750 = .ok (.ifCond .ne 15, 3) := by decide +kernel
theorem g_L_law_765_1 : ab_oks M_L_law [(765, .goto 1057, 3, 1822, 0, 0, .null)] = true := by decide +kernel
theorem g_L_law_753_2 : ab_oks M_L_law [(753, .aload_n 3, 1, 3, 0, 0, .null), (754, .iconst 0, 1, 0, 0, 0, .int (nI (0)))] = true := by decide +kernel
theorem ok_L_law_755 : ab_ok M_L_law (755, .laload, 1, 0, 0, 0, .null) = true := by decide +kernel
theorem g_L_law_756_3 : ab_oks M_L_law [(756, .iload 6, 2, 6, 0, 0, .null), (758, .i2l, 1, 0, 0, 0, .null), (759, .lcmp, 1, 0, 0, 0, .null)] = true := by decide +kernel
theorem dc_L_law_760 : decode (AM.bytes M_L_law) 760 = .ok (.ifCond .eq 5, 3) := by decide +kernel
set_option maxRecDepth 100000 in
set_option maxHeartbeats 4000000 in
theorem la_8 {E : AE} {sx : Nat → Int32} {sl i mc ms : Nat} {T K : Nat → Nat → Int32} {os sc : Int32} {tc tp : Nat → Int32} {tl_ tn trd tv tdg tf tla : Int32} {pg ph pc : Nat → Int32} {pm : Int32} {z sa ro te fr to un ga pi be : Nat → Int32} {bm en sta sv ln th : Int32} {hh : Int64} {ov : Nat → Int64} (hi : i + 4 < sl) (hsl : sl < 100000) (hP : PO E M_L_reject M_X5_reject [.ref 4096, .int (sx (i + 1)), .int (sx (i + 2)), .ref 20480] [.ref 16384, .int (sx (i + 1)), .int (sx (i + 2))] (ol_ sx sl lsS gsS) (ar T K os sc) (te_ tc tp tl_ tn trd tv tdg tf tla) (pl pg ph pc pm) (mo z sa ro te fr to un ga pi be bm en sta sv ln th hh) ov) (cont : ∀ (th : Int32) (ov : Nat → Int64) (h : AH), INV (ol_ sx sl lsS gsS) th ov h → ∃ h' : AH, AR E M_L_law 13 1822 [some (.ref 0), some (.ref 4096), some (.ref 16384), some (.ref 20480), some (.int (nI (i))), none, none, none, none] [] h (.inl (some (.int (nI 1)))) h' mc ms) : ∃ h' : AH, AR E M_L_law 13 700 [some (.ref 0), some (.ref 4096), some (.ref 16384), some (.ref 20480), some (.int (nI (i))), none, none, none, none] [] (hp (ol_ sx sl lsS gsS) (ar T K os sc) (te_ tc tp tl_ tn trd tv tdg tf tla) (pl pg ph pc pm) (mo z sa ro te fr to un ga pi be bm en sta sv ln th hh) (ou ov) []) (.inl (some (.int (nI 1)))) h' (mc + 1) (ms + 6) := by
  obtain ⟨k, b, a1, t1, p1, ov1, h2, mc1, ms1, hmc, hms, hL, hM, hI, he⟩ := hP
  obtain ⟨h', hc⟩ := cont k ov1 _ hI
  obtain ⟨T1, K1, os1, sc1, tc1, tp1, tl_1, tn1, trd1, tv1, tdg1, tf1, tla1, pg1, ph1, pc1, pm1, z1, sa1, ro1, te1, fr1, to1, un1, ga1, pi1, be1, bm1, en1, sta1, sv1, ln1, hh1, nv1, nc1, nr1, ne1, a9, b9, q9, rfl, -⟩ := id hI
  have he2 : k = 0 → ov1 0 = b.toInt64 := he
  refine ⟨h', AR.room (show mc1 + mc ≤ mc + 1 by omega) (show ms1 + ms ≤ ms + 6 by omega) ?_⟩
  refine AR.run g_L_law_700_5 706 [some (.ref 0), some (.ref 4096), some (.ref 16384), some (.ref 20480), some (.int (nI (i))), none, none, none, none] [.int ((nI (i)) + (nI (1))), .ref 0, .ref 4096] _ [] rfl trivial ?_
  refine AR.ald (n := 0) (e := (i + 1)) ok_L_law_706 (by first | rfl | (simp only [nI_add, pk_mul]; first | done | rfl)) rfl (by omega) (by first | decide | omega) ?_
  refine AR.run g_L_law_707_4 712 [some (.ref 0), some (.ref 4096), some (.ref 16384), some (.ref 20480), some (.int (nI (i))), none, none, none, none] [.int ((nI (i)) + (nI (2))), .ref 0, .int (sx (i + 1)), .ref 4096] _ [] rfl trivial ?_
  refine AR.ald (n := 0) (e := (i + 2)) ok_L_law_712 (by first | rfl | (simp only [nI_add, pk_mul]; first | done | rfl)) rfl (by omega) (by first | decide | omega) ?_
  refine AR.run g_L_law_713_1 714 [some (.ref 0), some (.ref 4096), some (.ref 16384), some (.ref 20480), some (.int (nI (i))), none, none, none, none] [.ref 20480, .int (sx (i + 2)), .int (sx (i + 1)), .ref 4096] _ [] rfl trivial ?_
  refine AR.callS (r := some (.int k)) (av := [.ref 4096, .int (sx (i + 1)), .int (sx (i + 2)), .ref 20480]) (rest := []) lk_L_130 dc_L_law_714 hL (by first | rfl | (simp only [nI_add, pk_mul]; first | done | rfl)) rfl ?_
  refine AR.cast (st' := [.int (k)]) rfl rfl rfl ?_
  refine AR.run g_L_law_717_6 725 [some (.ref 0), some (.ref 4096), some (.ref 16384), some (.ref 20480), some (.int (nI (i))), some (.int (k)), none, none, none] [.int ((nI (i)) + (nI (1))), .ref 0, .ref 16384] _ [] rfl trivial ?_
  refine AR.ald (n := 0) (e := (i + 1)) ok_L_law_725 (by first | rfl | (simp only [nI_add, pk_mul]; first | done | rfl)) rfl (by omega) (by first | decide | omega) ?_
  refine AR.run g_L_law_726_4 731 [some (.ref 0), some (.ref 4096), some (.ref 16384), some (.ref 20480), some (.int (nI (i))), some (.int (k)), none, none, none] [.int ((nI (i)) + (nI (2))), .ref 0, .int (sx (i + 1)), .ref 16384] _ [] rfl trivial ?_
  refine AR.ald (n := 0) (e := (i + 2)) ok_L_law_731 (by first | rfl | (simp only [nI_add, pk_mul]; first | done | rfl)) rfl (by omega) (by first | decide | omega) ?_
  refine AR.callV1 (16384) [.int (sx (i + 1)), .int (sx (i + 2))] [] lk_L_132 dc_L_law_732 rfl rfl hM (by first | rfl | (simp only [nI_add, pk_mul]; first | done | rfl)) rfl ?_
  refine AR.run g_L_law_735_2 738 [some (.ref 0), some (.ref 4096), some (.ref 16384), some (.ref 20480), some (.int (nI (i))), some (.int (k)), some (.int (b)), none, none] [.ref 16384] _ [] rfl trivial ?_
  refine AR.callV1 (16384) [] [] lk_L_102 dc_L_law_738 rfl rfl (s_thrown _) (by first | rfl | (simp only [nI_add, pk_mul]; first | done | rfl)) rfl ?_
  refine AR.run g_L_law_741_1 743 [some (.ref 0), some (.ref 4096), some (.ref 16384), some (.ref 20480), some (.int (nI (i))), some (.int (k)), some (.int (b)), none, none] [.int (k), .int (k)] _ [] rfl trivial ?_
  refine AR.eq2 (tgt := 748) dc_L_law_743 (by decide) (fun c743_1 => ?_) (fun c743_1 => absurd c743_1 (fun q => q rfl))
  refine AR.run g_L_law_748_1 750 [some (.ref 0), some (.ref 4096), some (.ref 16384), some (.ref 20480), some (.int (nI (i))), some (.int (k)), some (.int (b)), none, none] [.int (k)] _ [] rfl trivial ?_
  refine AR.ne (tgt := 765) dc_L_law_750 (by decide) (fun c750_2 => ?_) (fun c750_2 => ?_)
  · refine AR.run g_L_law_765_1 1822 [some (.ref 0), some (.ref 4096), some (.ref 16384), some (.ref 20480), some (.int (nI (i))), some (.int (k)), some (.int (b)), none, none] [] _ [] rfl trivial ?_
    refine AR.drop (L' := [some (.ref 0), some (.ref 4096), some (.ref 16384), some (.ref 20480), some (.int (nI (i))), none, none, none, none]) ⟨rfl, rfl, rfl, rfl, rfl, trivial⟩ ?_
    exact hc
  · refine AR.run g_L_law_753_2 755 [some (.ref 0), some (.ref 4096), some (.ref 16384), some (.ref 20480), some (.int (nI (i))), some (.int (k)), some (.int (b)), none, none] [.int (nI (0)), .ref 20480] _ [] rfl trivial ?_
    refine AR.lald (n := 0) (e := 0) ok_L_law_755 (by first | rfl | (simp only [nI_add, pk_mul]; first | done | rfl)) rfl (by omega) (by decide) ?_
    refine AR.run g_L_law_756_3 760 [some (.ref 0), some (.ref 4096), some (.ref 16384), some (.ref 20480), some (.int (nI (i))), some (.int (k)), some (.int (b)), none, none] [.int (lg_cmp (ov1 0) (b.toInt64))] _ [] rfl trivial ?_
    refine AR.eq (tgt := 765) dc_L_law_760 (by decide) (fun c760_3 => ?_) (fun c760_3 => absurd c760_3 (fun q9 => q9 (lcmp_eq (he2 (by assumption)))))
    refine AR.run g_L_law_765_1 1822 [some (.ref 0), some (.ref 4096), some (.ref 16384), some (.ref 20480), some (.int (nI (i))), some (.int (k)), some (.int (b)), none, none] [] _ [] rfl trivial ?_
    refine AR.drop (L' := [some (.ref 0), some (.ref 4096), some (.ref 16384), some (.ref 20480), some (.int (nI (i))), none, none, none, none]) ⟨rfl, rfl, rfl, rfl, rfl, trivial⟩ ?_
    exact hc
theorem g_L_law_768_5 : ab_oks M_L_law [(768, .aload_n 1, 1, 1, 0, 0, .null), (769, .aload_n 0, 1, 0, 0, 0, .null), (770, .iload 4, 2, 4, 0, 0, .null), (772, .iconst 1, 1, 0, 0, 0, .int (nI (1))), (773, .iadd, 1, 0, 0, 0, .null)] = true := by decide +kernel
theorem ok_L_law_774 : ab_ok M_L_law (774, .iaload, 1, 0, 0, 0, .null) = true := by decide +kernel
theorem g_L_law_775_1 : ab_oks M_L_law [(775, .aload_n 3, 1, 3, 0, 0, .null)] = true := by decide +kernel
theorem lk_L_133 : ab_lkS "LeafCradlesLaw" 133 M_L_append 3 [777, 778, 90, 779] = true := by decide +kernel
theorem dc_L_law_776 : decode (AM.bytes M_L_law) 776 = .ok (.invokestatic 133, 3) := by decide +kernel
theorem g_L_law_779_6 : ab_oks M_L_law [(779, .istore 5, 2, 5, 0, 0, .null), (781, .aload_n 2, 1, 2, 0, 0, .null), (782, .aload_n 0, 1, 0, 0, 0, .null), (783, .iload 4, 2, 4, 0, 0, .null), (785, .iconst 1, 1, 0, 0, 0, .int (nI (1))), (786, .iadd, 1, 0, 0, 0, .null)] = true := by decide +kernel
theorem ok_L_law_787 : ab_ok M_L_law (787, .iaload, 1, 0, 0, 0, .null) = true := by decide +kernel
theorem lk_L_135 : ab_lkV "LeafCradlesLaw" 135 M_X5_append 1 [1111, 1112, 1113, 97, 1114] = true := by decide +kernel
theorem dc_L_law_788 : decode (AM.bytes M_L_law) 788 = .ok (.invokevirtual 135, 3) := by decide +kernel
theorem g_L_law_791_2 : ab_oks M_L_law [(791, .istore 6, 2, 6, 0, 0, .null), (793, .aload_n 2, 1, 2, 0, 0, .null)] = true := by decide +kernel
theorem dc_L_law_794 : decode (AM.bytes M_L_law) 794 = .ok (.invokevirtual 102, 3) := by decide +kernel
theorem g_L_law_797_1 : ab_oks M_L_law [(797, .iload 5, 2, 5, 0, 0, .null)] = true := by decide +kernel
theorem dc_L_law_799 : decode (AM.bytes M_L_law) 799 = .ok (.if_icmp .eq 5, 3) := by decide +kernel
theorem g_L_law_804_1 : ab_oks M_L_law [(804, .iload 5, 2, 5, 0, 0, .null)] = true := by decide +kernel
theorem dc_L_law_806 : decode (AM.bytes M_L_law) 806 = .ok (.ifCond .ne 15, 3) := by decide +kernel
theorem g_L_law_821_1 : ab_oks M_L_law [(821, .goto 1001, 3, 1822, 0, 0, .null)] = true := by decide +kernel
theorem g_L_law_809_2 : ab_oks M_L_law [(809, .aload_n 3, 1, 3, 0, 0, .null), (810, .iconst 0, 1, 0, 0, 0, .int (nI (0)))] = true := by decide +kernel
theorem ok_L_law_811 : ab_ok M_L_law (811, .laload, 1, 0, 0, 0, .null) = true := by decide +kernel
theorem g_L_law_812_3 : ab_oks M_L_law [(812, .iload 6, 2, 6, 0, 0, .null), (814, .i2l, 1, 0, 0, 0, .null), (815, .lcmp, 1, 0, 0, 0, .null)] = true := by decide +kernel
theorem dc_L_law_816 : decode (AM.bytes M_L_law) 816 = .ok (.ifCond .eq 5, 3) := by decide +kernel
set_option maxRecDepth 100000 in
set_option maxHeartbeats 4000000 in
theorem la_9 {E : AE} {sx : Nat → Int32} {sl i mc ms : Nat} {T K : Nat → Nat → Int32} {os sc : Int32} {tc tp : Nat → Int32} {tl_ tn trd tv tdg tf tla : Int32} {pg ph pc : Nat → Int32} {pm : Int32} {z sa ro te fr to un ga pi be : Nat → Int32} {bm en sta sv ln th : Int32} {hh : Int64} {ov : Nat → Int64} (hi : i + 4 < sl) (hsl : sl < 100000) (hP : PO E M_L_append M_X5_append [.ref 4096, .int (sx (i + 1)), .ref 20480] [.ref 16384, .int (sx (i + 1))] (ol_ sx sl lsS gsS) (ar T K os sc) (te_ tc tp tl_ tn trd tv tdg tf tla) (pl pg ph pc pm) (mo z sa ro te fr to un ga pi be bm en sta sv ln th hh) ov) (cont : ∀ (th : Int32) (ov : Nat → Int64) (h : AH), INV (ol_ sx sl lsS gsS) th ov h → ∃ h' : AH, AR E M_L_law 13 1822 [some (.ref 0), some (.ref 4096), some (.ref 16384), some (.ref 20480), some (.int (nI (i))), none, none, none, none] [] h (.inl (some (.int (nI 1)))) h' mc ms) : ∃ h' : AH, AR E M_L_law 13 768 [some (.ref 0), some (.ref 4096), some (.ref 16384), some (.ref 20480), some (.int (nI (i))), none, none, none, none] [] (hp (ol_ sx sl lsS gsS) (ar T K os sc) (te_ tc tp tl_ tn trd tv tdg tf tla) (pl pg ph pc pm) (mo z sa ro te fr to un ga pi be bm en sta sv ln th hh) (ou ov) []) (.inl (some (.int (nI 1)))) h' (mc + 1) (ms + 6) := by
  obtain ⟨k, b, a1, t1, p1, ov1, h2, mc1, ms1, hmc, hms, hL, hM, hI, he⟩ := hP
  obtain ⟨h', hc⟩ := cont k ov1 _ hI
  obtain ⟨T1, K1, os1, sc1, tc1, tp1, tl_1, tn1, trd1, tv1, tdg1, tf1, tla1, pg1, ph1, pc1, pm1, z1, sa1, ro1, te1, fr1, to1, un1, ga1, pi1, be1, bm1, en1, sta1, sv1, ln1, hh1, nv1, nc1, nr1, ne1, a9, b9, q9, rfl, -⟩ := id hI
  have he2 : k = 0 → ov1 0 = b.toInt64 := he
  refine ⟨h', AR.room (show mc1 + mc ≤ mc + 1 by omega) (show ms1 + ms ≤ ms + 6 by omega) ?_⟩
  refine AR.run g_L_law_768_5 774 [some (.ref 0), some (.ref 4096), some (.ref 16384), some (.ref 20480), some (.int (nI (i))), none, none, none, none] [.int ((nI (i)) + (nI (1))), .ref 0, .ref 4096] _ [] rfl trivial ?_
  refine AR.ald (n := 0) (e := (i + 1)) ok_L_law_774 (by first | rfl | (simp only [nI_add, pk_mul]; first | done | rfl)) rfl (by omega) (by first | decide | omega) ?_
  refine AR.run g_L_law_775_1 776 [some (.ref 0), some (.ref 4096), some (.ref 16384), some (.ref 20480), some (.int (nI (i))), none, none, none, none] [.ref 20480, .int (sx (i + 1)), .ref 4096] _ [] rfl trivial ?_
  refine AR.callS (r := some (.int k)) (av := [.ref 4096, .int (sx (i + 1)), .ref 20480]) (rest := []) lk_L_133 dc_L_law_776 hL (by first | rfl | (simp only [nI_add, pk_mul]; first | done | rfl)) rfl ?_
  refine AR.cast (st' := [.int (k)]) rfl rfl rfl ?_
  refine AR.run g_L_law_779_6 787 [some (.ref 0), some (.ref 4096), some (.ref 16384), some (.ref 20480), some (.int (nI (i))), some (.int (k)), none, none, none] [.int ((nI (i)) + (nI (1))), .ref 0, .ref 16384] _ [] rfl trivial ?_
  refine AR.ald (n := 0) (e := (i + 1)) ok_L_law_787 (by first | rfl | (simp only [nI_add, pk_mul]; first | done | rfl)) rfl (by omega) (by first | decide | omega) ?_
  refine AR.callV1 (16384) [.int (sx (i + 1))] [] lk_L_135 dc_L_law_788 rfl rfl hM (by first | rfl | (simp only [nI_add, pk_mul]; first | done | rfl)) rfl ?_
  refine AR.run g_L_law_791_2 794 [some (.ref 0), some (.ref 4096), some (.ref 16384), some (.ref 20480), some (.int (nI (i))), some (.int (k)), some (.int (b)), none, none] [.ref 16384] _ [] rfl trivial ?_
  refine AR.callV1 (16384) [] [] lk_L_102 dc_L_law_794 rfl rfl (s_thrown _) (by first | rfl | (simp only [nI_add, pk_mul]; first | done | rfl)) rfl ?_
  refine AR.run g_L_law_797_1 799 [some (.ref 0), some (.ref 4096), some (.ref 16384), some (.ref 20480), some (.int (nI (i))), some (.int (k)), some (.int (b)), none, none] [.int (k), .int (k)] _ [] rfl trivial ?_
  refine AR.eq2 (tgt := 804) dc_L_law_799 (by decide) (fun c799_1 => ?_) (fun c799_1 => absurd c799_1 (fun q => q rfl))
  refine AR.run g_L_law_804_1 806 [some (.ref 0), some (.ref 4096), some (.ref 16384), some (.ref 20480), some (.int (nI (i))), some (.int (k)), some (.int (b)), none, none] [.int (k)] _ [] rfl trivial ?_
  refine AR.ne (tgt := 821) dc_L_law_806 (by decide) (fun c806_2 => ?_) (fun c806_2 => ?_)
  · refine AR.run g_L_law_821_1 1822 [some (.ref 0), some (.ref 4096), some (.ref 16384), some (.ref 20480), some (.int (nI (i))), some (.int (k)), some (.int (b)), none, none] [] _ [] rfl trivial ?_
    refine AR.drop (L' := [some (.ref 0), some (.ref 4096), some (.ref 16384), some (.ref 20480), some (.int (nI (i))), none, none, none, none]) ⟨rfl, rfl, rfl, rfl, rfl, trivial⟩ ?_
    exact hc
  · refine AR.run g_L_law_809_2 811 [some (.ref 0), some (.ref 4096), some (.ref 16384), some (.ref 20480), some (.int (nI (i))), some (.int (k)), some (.int (b)), none, none] [.int (nI (0)), .ref 20480] _ [] rfl trivial ?_
    refine AR.lald (n := 0) (e := 0) ok_L_law_811 (by first | rfl | (simp only [nI_add, pk_mul]; first | done | rfl)) rfl (by omega) (by decide) ?_
    refine AR.run g_L_law_812_3 816 [some (.ref 0), some (.ref 4096), some (.ref 16384), some (.ref 20480), some (.int (nI (i))), some (.int (k)), some (.int (b)), none, none] [.int (lg_cmp (ov1 0) (b.toInt64))] _ [] rfl trivial ?_
    refine AR.eq (tgt := 821) dc_L_law_816 (by decide) (fun c816_3 => ?_) (fun c816_3 => absurd c816_3 (fun q9 => q9 (lcmp_eq (he2 (by assumption)))))
    refine AR.run g_L_law_821_1 1822 [some (.ref 0), some (.ref 4096), some (.ref 16384), some (.ref 20480), some (.int (nI (i))), some (.int (k)), some (.int (b)), none, none] [] _ [] rfl trivial ?_
    refine AR.drop (L' := [some (.ref 0), some (.ref 4096), some (.ref 16384), some (.ref 20480), some (.int (nI (i))), none, none, none, none]) ⟨rfl, rfl, rfl, rfl, rfl, trivial⟩ ?_
    exact hc
