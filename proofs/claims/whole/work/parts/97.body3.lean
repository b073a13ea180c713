theorem g_L_law_1370_5 : ab_oks M_L_law [(1370, .aload_n 1, 1, 1, 0, 0, .null), (1371, .aload_n 0, 1, 0, 0, 0, .null), (1372, .iload 4, 2, 4, 0, 0, .null), (1374, .iconst 1, 1, 0, 0, 0, .int (nI (1))), (1375, .iadd, 1, 0, 0, 0, .null)] = true := by decide +kernel
theorem ok_L_law_1376 : ab_ok M_L_law (1376, .iaload, 1, 0, 0, 0, .null) = true := by decide +kernel
theorem g_L_law_1377_1 : ab_oks M_L_law [(1377, .aload_n 3, 1, 3, 0, 0, .null)] = true := by decide +kernel
theorem lk_L_168 : ab_lkS "LeafCradlesLaw" 168 M_L_count 3 [883, 884, 90, 885] = true := by decide +kernel
theorem dc_L_law_1378 : decode (AM.bytes M_L_law) 1378 = .ok (.invokestatic 168, 3) := by decide +kernel
theorem g_L_law_1381_6 : ab_oks M_L_law [(1381, .istore 5, 2, 5, 0, 0, .null), (1383, .aload_n 2, 1, 2, 0, 0, .null), (1384, .aload_n 0, 1, 0, 0, 0, .null), (1385, .iload 4, 2, 4, 0, 0, .null), (1387, .iconst 1, 1, 0, 0, 0, .int (nI (1))), (1388, .iadd, 1, 0, 0, 0, .null)] = true := by decide +kernel
theorem ok_L_law_1389 : ab_ok M_L_law (1389, .iaload, 1, 0, 0, 0, .null) = true := by decide +kernel
theorem lk_L_170 : ab_lkV "LeafCradlesLaw" 170 M_X5_count 1 [1215, 1216, 1217, 97, 1218] = true := by decide +kernel
theorem dc_L_law_1390 : decode (AM.bytes M_L_law) 1390 = .ok (.invokevirtual 170, 3) := by decide +kernel
theorem g_L_law_1393_2 : ab_oks M_L_law [(1393, .istore 6, 2, 6, 0, 0, .null), (1395, .aload_n 2, 1, 2, 0, 0, .null)] = true := by decide +kernel
theorem dc_L_law_1396 : decode (AM.bytes M_L_law) 1396 = .ok (.invokevirtual 102, 3) := by decide +kernel
theorem g_L_law_1399_1 : ab_oks M_L_law [(1399, .iload 5, 2, 5, 0, 0, .null)] = true := by decide +kernel
theorem dc_L_law_1401 : decode (AM.bytes M_L_law) 1401 = .ok (.if_icmp .eq 5, 3) := by decide +kernel
theorem g_L_law_1406_1 : ab_oks M_L_law [(1406, .iload 5, 2, 5, 0, 0, .null)] = true := by decide +kernel
theorem dc_L_law_1408 : decode (AM.bytes M_L_law) 1408 = .ok (.ifCond .ne 15, 3) := by decide +kernel
theorem g_L_law_1423_1 : ab_oks M_L_law [(1423, .goto 399, 3, 1822, 0, 0, .null)] = true := by decide +kernel
theorem g_L_law_1411_2 : ab_oks M_L_law [(1411, .aload_n 3, 1, 3, 0, 0, .null), (1412, .iconst 0, 1, 0, 0, 0, .int (nI (0)))] = true := by decide +kernel
theorem ok_L_law_1413 : ab_ok M_L_law (1413, .laload, 1, 0, 0, 0, .null) = true := by decide +kernel
theorem g_L_law_1414_3 : ab_oks M_L_law [(1414, .iload 6, 2, 6, 0, 0, .null), (1416, .i2l, 1, 0, 0, 0, .null), (1417, .lcmp, 1, 0, 0, 0, .null)] = true := by decide +kernel
theorem dc_L_law_1418 : decode (AM.bytes M_L_law) 1418 = .ok (.ifCond .eq 5, 3) := by decide +kernel
set_option maxRecDepth 100000 in
set_option maxHeartbeats 4000000 in
theorem la_20 {E : AE} {sx : Nat → Int32} {sl i mc ms : Nat} {T K : Nat → Nat → Int32} {os sc : Int32} {tc tp : Nat → Int32} {tl_ tn trd tv tdg tf tla : Int32} {pg ph pc : Nat → Int32} {pm : Int32} {z sa ro te fr to un ga pi be : Nat → Int32} {bm en sta sv ln th : Int32} {hh : Int64} {ov : Nat → Int64} (hi : i + 4 < sl) (hsl : sl < 100000) (hP : PO E M_L_count M_X5_count [.ref 4096, .int (sx (i + 1)), .ref 20480] [.ref 16384, .int (sx (i + 1))] (ol_ sx sl lsS gsS) (ar T K os sc) (te_ tc tp tl_ tn trd tv tdg tf tla) (pl pg ph pc pm) (mo z sa ro te fr to un ga pi be bm en sta sv ln th hh) ov) (cont : ∀ (th : Int32) (ov : Nat → Int64) (h : AH), INV (ol_ sx sl lsS gsS) th ov h → ∃ h' : AH, AR E M_L_law 13 1822 [some (.ref 0), some (.ref 4096), some (.ref 16384), some (.ref 20480), some (.int (nI (i))), none, none, none, none] [] h (.inl (some (.int (nI 1)))) h' mc ms) : ∃ h' : AH, AR E M_L_law 13 1370 [some (.ref 0), some (.ref 4096), some (.ref 16384), some (.ref 20480), some (.int (nI (i))), none, none, none, none] [] (hp (ol_ sx sl lsS gsS) (ar T K os sc) (te_ tc tp tl_ tn trd tv tdg tf tla) (pl pg ph pc pm) (mo z sa ro te fr to un ga pi be bm en sta sv ln th hh) (ou ov) []) (.inl (some (.int (nI 1)))) h' (mc + 1) (ms + 6) := by
  obtain ⟨k, b, a1, t1, p1, ov1, h2, mc1, ms1, hmc, hms, hL, hM, hI, he⟩ := hP
  obtain ⟨h', hc⟩ := cont k ov1 _ hI
  obtain ⟨T1, K1, os1, sc1, tc1, tp1, tl_1, tn1, trd1, tv1, tdg1, tf1, tla1, pg1, ph1, pc1, pm1, z1, sa1, ro1, te1, fr1, to1, un1, ga1, pi1, be1, bm1, en1, sta1, sv1, ln1, hh1, nv1, nc1, nr1, ne1, a9, b9, q9, rfl, -⟩ := id hI
  have he2 : k = 0 → ov1 0 = b.toInt64 := he
  refine ⟨h', AR.room (show mc1 + mc ≤ mc + 1 by omega) (show ms1 + ms ≤ ms + 6 by omega) ?_⟩
  refine AR.run g_L_law_1370_5 1376 [some (.ref 0), some (.ref 4096), some (.ref 16384), some (.ref 20480), some (.int (nI (i))), none, none, none, none] [.int ((nI (i)) + (nI (1))), .ref 0, .ref 4096] _ [] rfl trivial ?_
  refine AR.ald (n := 0) (e := (i + 1)) ok_L_law_1376 (by first | rfl | (simp only [nI_add, pk_mul]; first | done | rfl)) rfl (by omega) (by first | decide | omega) ?_
  refine AR.run g_L_law_1377_1 1378 [some (.ref 0), some (.ref 4096), some (.ref 16384), some (.ref 20480), some (.int (nI (i))), none, none, none, none] [.ref 20480, .int (sx (i + 1)), .ref 4096] _ [] rfl trivial ?_
  refine AR.callS (r := some (.int k)) (av := [.ref 4096, .int (sx (i + 1)), .ref 20480]) (rest := []) lk_L_168 dc_L_law_1378 hL (by first | rfl | (simp only [nI_add, pk_mul]; first | done | rfl)) rfl ?_
  refine AR.cast (st' := [.int (k)]) rfl rfl rfl ?_
  refine AR.run g_L_law_1381_6 1389 [some (.ref 0), some (.ref 4096), some (.ref 16384), some (.ref 20480), some (.int (nI (i))), some (.int (k)), none, none, none] [.int ((nI (i)) + (nI (1))), .ref 0, .ref 16384] _ [] rfl trivial ?_
  refine AR.ald (n := 0) (e := (i + 1)) ok_L_law_1389 (by first | rfl | (simp only [nI_add, pk_mul]; first | done | rfl)) rfl (by omega) (by first | decide | omega) ?_
  refine AR.callV1 (16384) [.int (sx (i + 1))] [] lk_L_170 dc_L_law_1390 rfl rfl hM (by first | rfl | (simp only [nI_add, pk_mul]; first | done | rfl)) rfl ?_
  refine AR.run g_L_law_1393_2 1396 [some (.ref 0), some (.ref 4096), some (.ref 16384), some (.ref 20480), some (.int (nI (i))), some (.int (k)), some (.int (b)), none, none] [.ref 16384] _ [] rfl trivial ?_
  refine AR.callV1 (16384) [] [] lk_L_102 dc_L_law_1396 rfl rfl (s_thrown _) (by first | rfl | (simp only [nI_add, pk_mul]; first | done | rfl)) rfl ?_
  refine AR.run g_L_law_1399_1 1401 [some (.ref 0), some (.ref 4096), some (.ref 16384), some (.ref 20480), some (.int (nI (i))), some (.int (k)), some (.int (b)), none, none] [.int (k), .int (k)] _ [] rfl trivial ?_
  refine AR.eq2 (tgt := 1406) dc_L_law_1401 (by decide) (fun c1401_1 => ?_) (fun c1401_1 => absurd c1401_1 (fun q => q rfl))
  refine AR.run g_L_law_1406_1 1408 [some (.ref 0), some (.ref 4096), some (.ref 16384), some (.ref 20480), some (.int (nI (i))), some (.int (k)), some (.int (b)), none, none] [.int (k)] _ [] rfl trivial ?_
  refine AR.ne (tgt := 1423) dc_L_law_1408 (by decide) (fun c1408_2 => ?_) (fun c1408_2 => ?_)
  · refine AR.run g_L_law_1423_1 1822 [some (.ref 0), some (.ref 4096), some (.ref 16384), some (.ref 20480), some (.int (nI (i))), some (.int (k)), some (.int (b)), none, none] [] _ [] rfl trivial ?_
    refine AR.drop (L' := [some (.ref 0), some (.ref 4096), some (.ref 16384), some (.ref 20480), some (.int (nI (i))), none, none, none, none]) ⟨rfl, rfl, rfl, rfl, rfl, trivial⟩ ?_
    exact hc
  · refine AR.run g_L_law_1411_2 1413 [some (.ref 0), some (.ref 4096), some (.ref 16384), some (.ref 20480), some (.int (nI (i))), some (.int (k)), some (.int (b)), none, none] [.int (nI (0)), .ref 20480] _ [] rfl trivial ?_
    refine AR.lald (n := 0) (e := 0) ok_L_law_1413 (by first | rfl | (simp only [nI_add, pk_mul]; first | done | rfl)) rfl (by omega) (by decide) ?_
    refine AR.run g_L_law_1414_3 1418 [some (.ref 0), some (.ref 4096), some (.ref 16384), some (.ref 20480), some (.int (nI (i))), some (.int (k)), some (.int (b)), none, none] [.int (lg_cmp (ov1 0) (b.toInt64))] _ [] rfl trivial ?_
    refine AR.eq (tgt := 1423) dc_L_law_1418 (by decide) (fun c1418_3 => ?_) (fun c1418_3 => absurd c1418_3 (fun q9 => q9 (lcmp_eq (he2 (by assumption)))))
    refine AR.run g_L_law_1423_1 1822 [some (.ref 0), some (.ref 4096), some (.ref 16384), some (.ref 20480), some (.int (nI (i))), some (.int (k)), some (.int (b)), none, none] [] _ [] rfl trivial ?_
    refine AR.drop (L' := [some (.ref 0), some (.ref 4096), some (.ref 16384), some (.ref 20480), some (.int (nI (i))), none, none, none, none]) ⟨rfl, rfl, rfl, rfl, rfl, trivial⟩ ?_
    exact hc
theorem g_L_law_1426_5 : ab_oks M_L_law [(1426, .aload_n 1, 1, 1, 0, 0, .null), (1427, .aload_n 0, 1, 0, 0, 0, .null), (1428, .iload 4, 2, 4, 0, 0, .null), (1430, .iconst 1, 1, 0, 0, 0, .int (nI (1))), (1431, .iadd, 1, 0, 0, 0, .null)] = true := by decide +kernel
theorem ok_L_law_1432 : ab_ok M_L_law (1432, .iaload, 1, 0, 0, 0, .null) = true := by decide +kernel
theorem g_L_law_1433_1 : ab_oks M_L_law [(1433, .aload_n 3, 1, 3, 0, 0, .null)] = true := by decide +kernel
theorem lk_L_171 : ab_lkS "LeafCradlesLaw" 171 M_L_setting 3 [890, 891, 90, 892] = true := by decide +kernel
theorem dc_L_law_1434 : decode (AM.bytes M_L_law) 1434 = .ok (.invokestatic 171, 3) := by decide +kernel
theorem g_L_law_1437_6 : ab_oks M_L_law [(1437, .istore 5, 2, 5, 0, 0, .null), (1439, .aload_n 2, 1, 2, 0, 0, .null), (1440, .aload_n 0, 1, 0, 0, 0, .null), (1441, .iload 4, 2, 4, 0, 0, .null), (1443, .iconst 1, 1, 0, 0, 0, .int (nI (1))), (1444, .iadd, 1, 0, 0, 0, .null)] = true := by decide +kernel
theorem ok_L_law_1445 : ab_ok M_L_law (1445, .iaload, 1, 0, 0, 0, .null) = true := by decide +kernel
theorem lk_L_173 : ab_lkV "LeafCradlesLaw" 173 M_X5_setting 1 [1231, 1232, 1233, 97, 1234] = true := by decide +kernel
theorem dc_L_law_1446 : decode (AM.bytes M_L_law) 1446 = .ok (.invokevirtual 173, 3) := by decide +kernel
theorem g_L_law_1449_2 : ab_oks M_L_law [(1449, .istore 6, 2, 6, 0, 0, .null), (1451, .aload_n 2, 1, 2, 0, 0, .null)] = true := by decide +kernel
theorem dc_L_law_1452 : decode (AM.bytes M_L_law) 1452 = .ok (.invokevirtual 102, 3) := by decide +kernel
theorem g_L_law_1455_1 : ab_oks M_L_law [(1455, .iload 5, 2, 5, 0, 0, .null)] = true := by decide +kernel
theorem dc_L_law_1457 : decode (AM.bytes M_L_law) 1457 = .ok (.if_icmp .eq 5, 3) := by decide +kernel
theorem g_L_law_1462_1 : ab_oks M_L_law [(1462, .iload 5, 2, 5, 0, 0, .null)] = true := by decide +kernel
theorem dc_L_law_1464 : decode (AM.bytes M_L_law) 1464 = .ok (.ifCond .ne 15, 3) := by decide +kernel
theorem g_L_law_1479_1 : ab_oks M_L_law [(1479, .goto 343, 3, 1822, 0, 0, .null)] = true := by decide +kernel
theorem g_L_law_1467_2 : ab_oks M_L_law [(1467, .aload_n 3, 1, 3, 0, 0, .null), (1468, .iconst 0, 1, 0, 0, 0, .int (nI (0)))] = true := by decide +kernel
theorem ok_L_law_1469 : ab_ok M_L_law (1469, .laload, 1, 0, 0, 0, .null) = true := by decide +kernel
theorem g_L_law_1470_3 : ab_oks M_L_law [(1470, .iload 6, 2, 6, 0, 0, .null), (1472, .i2l, 1, 0, 0, 0, .null), (1473, .lcmp, 1, 0, 0, 0, .null)] = true := by decide +kernel
theorem dc_L_law_1474 : decode (AM.bytes M_L_law) 1474 = .ok (.ifCond .eq 5, 3) := by decide +kernel
set_option maxRecDepth 100000 in
set_option maxHeartbeats 4000000 in
theorem la_21 {E : AE} {sx : Nat → Int32} {sl i mc ms : Nat} {T K : Nat → Nat → Int32} {os sc : Int32} {tc tp : Nat → Int32} {tl_ tn trd tv tdg tf tla : Int32} {pg ph pc : Nat → Int32} {pm : Int32} {z sa ro te fr to un ga pi be : Nat → Int32} {bm en sta sv ln th : Int32} {hh : Int64} {ov : Nat → Int64} (hi : i + 4 < sl) (hsl : sl < 100000) (hP : PO E M_L_setting M_X5_setting [.ref 4096, .int (sx (i + 1)), .ref 20480] [.ref 16384, .int (sx (i + 1))] (ol_ sx sl lsS gsS) (ar T K os sc) (te_ tc tp tl_ tn trd tv tdg tf tla) (pl pg ph pc pm) (mo z sa ro te fr to un ga pi be bm en sta sv ln th hh) ov) (cont : ∀ (th : Int32) (ov : Nat → Int64) (h : AH), INV (ol_ sx sl lsS gsS) th ov h → ∃ h' : AH, AR E M_L_law 13 1822 [some (.ref 0), some (.ref 4096), some (.ref 16384), some (.ref 20480), some (.int (nI (i))), none, none, none, none] [] h (.inl (some (.int (nI 1)))) h' mc ms) : ∃ h' : AH, AR E M_L_law 13 1426 [some (.ref 0), some (.ref 4096), some (.ref 16384), some (.ref 20480), some (.int (nI (i))), none, none, none, none] [] (hp (ol_ sx sl lsS gsS) (ar T K os sc) (te_ tc tp tl_ tn trd tv tdg tf tla) (pl pg ph pc pm) (mo z sa ro te fr to un ga pi be bm en sta sv ln th hh) (ou ov) []) (.inl (some (.int (nI 1)))) h' (mc + 1) (ms + 6) := by
  obtain ⟨k, b, a1, t1, p1, ov1, h2, mc1, ms1, hmc, hms, hL, hM, hI, he⟩ := hP
  obtain ⟨h', hc⟩ := cont k ov1 _ hI
  obtain ⟨T1, K1, os1, sc1, tc1, tp1, tl_1, tn1, trd1, tv1, tdg1, tf1, tla1, pg1, ph1, pc1, pm1, z1, sa1, ro1, te1, fr1, to1, un1, ga1, pi1, be1, bm1, en1, sta1, sv1, ln1, hh1, nv1, nc1, nr1, ne1, a9, b9, q9, rfl, -⟩ := id hI
  have he2 : k = 0 → ov1 0 = b.toInt64 := he
  refine ⟨h', AR.room (show mc1 + mc ≤ mc + 1 by omega) (show ms1 + ms ≤ ms + 6 by omega) ?_⟩
  refine AR.run g_L_law_1426_5 1432 [some (.ref 0), some (.ref 4096), some (.ref 16384), some (.ref 20480), some (.int (nI (i))), none, none, none, none] [.int ((nI (i)) + (nI (1))), .ref 0, .ref 4096] _ [] rfl trivial ?_
  refine AR.ald (n := 0) (e := (i + 1)) ok_L_law_1432 (by first | rfl | (simp only [nI_add, pk_mul]; first | done | rfl)) rfl (by omega) (by first | decide | omega) ?_
  refine AR.run g_L_law_1433_1 1434 [some (.ref 0), some (.ref 4096), some (.ref 16384), some (.ref 20480), some (.int (nI (i))), none, none, none, none] [.ref 20480, .int (sx (i + 1)), .ref 4096] _ [] rfl trivial ?_
  refine AR.callS (r := some (.int k)) (av := [.ref 4096, .int (sx (i + 1)), .ref 20480]) (rest := []) lk_L_171 dc_L_law_1434 hL (by first | rfl | (simp only [nI_add, pk_mul]; first | done | rfl)) rfl ?_
  refine AR.cast (st' := [.int (k)]) rfl rfl rfl ?_
  refine AR.run g_L_law_1437_6 1445 [some (.ref 0), some (.ref 4096), some (.ref 16384), some (.ref 20480), some (.int (nI (i))), some (.int (k)), none, none, none] [.int ((nI (i)) + (nI (1))), .ref 0, .ref 16384] _ [] rfl trivial ?_
  refine AR.ald (n := 0) (e := (i + 1)) ok_L_law_1445 (by first | rfl | (simp only [nI_add, pk_mul]; first | done | rfl)) rfl (by omega) (by first | decide | omega) ?_
  refine AR.callV1 (16384) [.int (sx (i + 1))] [] lk_L_173 dc_L_law_1446 rfl rfl hM (by first | rfl | (simp only [nI_add, pk_mul]; first | done | rfl)) rfl ?_
  refine AR.run g_L_law_1449_2 1452 [some (.ref 0), some (.ref 4096), some (.ref 16384), some (.ref 20480), some (.int (nI (i))), some (.int (k)), some (.int (b)), none, none] [.ref 16384] _ [] rfl trivial ?_
  refine AR.callV1 (16384) [] [] lk_L_102 dc_L_law_1452 rfl rfl (s_thrown _) (by first | rfl | (simp only [nI_add, pk_mul]; first | done | rfl)) rfl ?_
  refine AR.run g_L_law_1455_1 1457 [some (.ref 0), some (.ref 4096), some (.ref 16384), some (.ref 20480), some (.int (nI (i))), some (.int (k)), some (.int (b)), none, none] [.int (k), .int (k)] _ [] rfl trivial ?_
  refine AR.eq2 (tgt := 1462) dc_L_law_1457 (by decide) (fun c1457_1 => ?_) (fun c1457_1 => absurd c1457_1 (fun q => q rfl))
  refine AR.run g_L_law_1462_1 1464 [some (.ref 0), some (.ref 4096), some (.ref 16384), some (.ref 20480), some (.int (nI (i))), some (.int (k)), some (.int (b)), none, none] [.int (k)] _ [] rfl trivial ?_
  refine AR.ne (tgt := 1479) dc_L_law_1464 (by decide) (fun c1464_2 => ?_) (fun c1464_2 => ?_)
  · refine AR.run g_L_law_1479_1 1822 [some (.ref 0), some (.ref 4096), some (.ref 16384), some (.ref 20480), some (.int (nI (i))), some (.int (k)), some (.int (b)), none, none] [] _ [] rfl trivial ?_
    refine AR.drop (L' := [some (.ref 0), some (.ref 4096), some (.ref 16384), some (.ref 20480), some (.int (nI (i))), none, none, none, none]) ⟨rfl, rfl, rfl, rfl, rfl, trivial⟩ ?_
    exact hc
  · refine AR.run g_L_law_1467_2 1469 [some (.ref 0), some (.ref 4096), some (.ref 16384), some (.ref 20480), some (.int (nI (i))), some (.int (k)), some (.int (b)), none, none] [.int (nI (0)), .ref 20480] _ [] rfl trivial ?_
    refine AR.lald (n := 0) (e := 0) ok_L_law_1469 (by first | rfl | (simp only [nI_add, pk_mul]; first | done | rfl)) rfl (by omega) (by decide) ?_
    refine AR.run g_L_law_1470_3 1474 [some (.ref 0), some (.ref 4096), some (.ref 16384), some (.ref 20480), some (.int (nI (i))), some (.int (k)), some (.int (b)), none, none] [.int (lg_cmp (ov1 0) (b.toInt64))] _ [] rfl trivial ?_
    refine AR.eq (tgt := 1479) dc_L_law_1474 (by decide) (fun c1474_3 => ?_) (fun c1474_3 => absurd c1474_3 (fun q9 => q9 (lcmp_eq (he2 (by assumption)))))
    refine AR.run g_L_law_1479_1 1822 [some (.ref 0), some (.ref 4096), some (.ref 16384), some (.ref 20480), some (.int (nI (i))), some (.int (k)), some (.int (b)), none, none] [] _ [] rfl trivial ?_
    refine AR.drop (L' := [some (.ref 0), some (.ref 4096), some (.ref 16384), some (.ref 20480), some (.int (nI (i))), none, none, none, none]) ⟨rfl, rfl, rfl, rfl, rfl, trivial⟩ ?_
    exact hc
theorem g_L_law_1482_5 : ab_oks M_L_law [(1482, .aload_n 1, 1, 1, 0, 0, .null), (1483, .aload_n 0, 1, 0, 0, 0, .null), (1484, .iload 4, 2, 4, 0, 0, .null), (1486, .iconst 1, 1, 0, 0, 0, .int (nI (1))), (1487, .iadd, 1, 0, 0, 0, .null)] = true := by decide +kernel
theorem ok_L_law_1488 : ab_ok M_L_law (1488, .iaload, 1, 0, 0, 0, .null) = true := by decide +kernel
theorem g_L_law_1489_4 : ab_oks M_L_law [(1489, .aload_n 0, 1, 0, 0, 0, .null), (1490, .iload 4, 2, 4, 0, 0, .null), (1492, .iconst 2, 1, 0, 0, 0, .int (nI (2))), (1493, .iadd, 1, 0, 0, 0, .null)] = true := by decide +kernel
theorem ok_L_law_1494 : ab_ok M_L_law (1494, .iaload, 1, 0, 0, 0, .null) = true := by decide +kernel
theorem g_L_law_1495_4 : ab_oks M_L_law [(1495, .aload_n 0, 1, 0, 0, 0, .null), (1496, .iload 4, 2, 4, 0, 0, .null), (1498, .iconst 3, 1, 0, 0, 0, .int (nI (3))), (1499, .iadd, 1, 0, 0, 0, .null)] = true := by decide +kernel
theorem ok_L_law_1500 : ab_ok M_L_law (1500, .iaload, 1, 0, 0, 0, .null) = true := by decide +kernel
theorem g_L_law_1501_1 : ab_oks M_L_law [(1501, .aload_n 3, 1, 3, 0, 0, .null)] = true := by decide +kernel
theorem lk_L_174 : ab_lkS "LeafCradlesLaw" 174 M_L_whyNot 5 [897, 898, 90, 899] = true := by decide +kernel
theorem dc_L_law_1502 : decode (AM.bytes M_L_law) 1502 = .ok (.invokestatic 174, 3) := by decide +kernel
theorem g_L_law_1505_6 : ab_oks M_L_law [(1505, .istore 5, 2, 5, 0, 0, .null), (1507, .aload_n 2, 1, 2, 0, 0, .null), (1508, .aload_n 0, 1, 0, 0, 0, .null), (1509, .iload 4, 2, 4, 0, 0, .null), (1511, .iconst 1, 1, 0, 0, 0, .int (nI (1))), (1512, .iadd, 1, 0, 0, 0, .null)] = true := by decide +kernel
theorem ok_L_law_1513 : ab_ok M_L_law (1513, .iaload, 1, 0, 0, 0, .null) = true := by decide +kernel
theorem g_L_law_1514_4 : ab_oks M_L_law [(1514, .aload_n 0, 1, 0, 0, 0, .null), (1515, .iload 4, 2, 4, 0, 0, .null), (1517, .iconst 2, 1, 0, 0, 0, .int (nI (2))), (1518, .iadd, 1, 0, 0, 0, .null)] = true := by decide +kernel
theorem ok_L_law_1519 : ab_ok M_L_law (1519, .iaload, 1, 0, 0, 0, .null) = true := by decide +kernel
theorem g_L_law_1520_4 : ab_oks M_L_law [(1520, .aload_n 0, 1, 0, 0, 0, .null), (1521, .iload 4, 2, 4, 0, 0, .null), (1523, .iconst 3, 1, 0, 0, 0, .int (nI (3))), (1524, .iadd, 1, 0, 0, 0, .null)] = true := by decide +kernel
theorem ok_L_law_1525 : ab_ok M_L_law (1525, .iaload, 1, 0, 0, 0, .null) = true := by decide +kernel
theorem lk_L_176 : ab_lkV "LeafCradlesLaw" 176 M_X5_whyNot 3 [1235, 1236, 1237, 97, 1238] = true := by decide +kernel
theorem dc_L_law_1526 : decode (AM.bytes M_L_law) 1526 = .ok (.invokevirtual 176, 3) := by decide +kernel
theorem g_L_law_1529_2 : ab_oks M_L_law [(1529, .istore 6, 2, 6, 0, 0, .null), (1531, .aload_n 2, 1, 2, 0, 0, .null)] = true := by decide +kernel
theorem dc_L_law_1532 : decode (AM.bytes M_L_law) 1532 = .ok (.invokevirtual 102, 3) := by decide +kernel
theorem g_L_law_1535_1 : ab_oks M_L_law [(1535, .iload 5, 2, 5, 0, 0, .null)] = true := by decide +kernel
theorem dc_L_law_1537 : decode (AM.bytes M_L_law) 1537 = .ok (.if_icmp .eq 5, 3) := by decide +kernel
theorem g_L_law_1542_1 : ab_oks M_L_law [(1542, .iload 5, 2, 5, 0, 0, .null)] = true := by decide +kernel
theorem dc_L_law_1544 : decode (AM.bytes M_L_law) 1544 = .ok (.ifCond .ne 15, 3) := by decide +kernel
theorem g_L_law_1559_1 : ab_oks M_L_law [(1559, .goto 263, 3, 1822, 0, 0, .null)] = true := by decide +kernel
theorem g_L_law_1547_2 : ab_oks M_L_law [(1547, .aload_n 3, 1, 3, 0, 0, .null), (1548, .iconst 0, 1, 0, 0, 0, .int (nI (0)))] = true := by decide +kernel
theorem ok_L_law_1549 : ab_ok M_L_law (1549, .laload, 1, 0, 0, 0, .null) = true := by decide +kernel
theorem g_L_law_1550_3 : ab_oks M_L_law [(1550, .iload 6, 2, 6, 0, 0, .null), (1552, .i2l, 1, 0, 0, 0, .null), (1553, .lcmp, 1, 0, 0, 0, .null)] = true := by decide +kernel
theorem dc_L_law_1554 : decode (AM.bytes M_L_law) 1554 = .ok (.ifCond .eq 5, 3) := by decide +kernel
set_option maxRecDepth 100000 in
set_option maxHeartbeats 4000000 in
theorem la_22 {E : AE} {sx : Nat → Int32} {sl i mc ms : Nat} {T K : Nat → Nat → Int32} {os sc : Int32} {tc tp : Nat → Int32} {tl_ tn trd tv tdg tf tla : Int32} {pg ph pc : Nat → Int32} {pm : Int32} {z sa ro te fr to un ga pi be : Nat → Int32} {bm en sta sv ln th : Int32} {hh : Int64} {ov : Nat → Int64} (hi : i + 4 < sl) (hsl : sl < 100000) (hP : PO E M_L_whyNot M_X5_whyNot [.ref 4096, .int (sx (i + 1)), .int (sx (i + 2)), .int (sx (i + 3)), .ref 20480] [.ref 16384, .int (sx (i + 1)), .int (sx (i + 2)), .int (sx (i + 3))] (ol_ sx sl lsS gsS) (ar T K os sc) (te_ tc tp tl_ tn trd tv tdg tf tla) (pl pg ph pc pm) (mo z sa ro te fr to un ga pi be bm en sta sv ln th hh) ov) (cont : ∀ (th : Int32) (ov : Nat → Int64) (h : AH), INV (ol_ sx sl lsS gsS) th ov h → ∃ h' : AH, AR E M_L_law 13 1822 [some (.ref 0), some (.ref 4096), some (.ref 16384), some (.ref 20480), some (.int (nI (i))), none, none, none, none] [] h (.inl (some (.int (nI 1)))) h' mc ms) : ∃ h' : AH, AR E M_L_law 13 1482 [some (.ref 0), some (.ref 4096), some (.ref 16384), some (.ref 20480), some (.int (nI (i))), none, none, none, none] [] (hp (ol_ sx sl lsS gsS) (ar T K os sc) (te_ tc tp tl_ tn trd tv tdg tf tla) (pl pg ph pc pm) (mo z sa ro te fr to un ga pi be bm en sta sv ln th hh) (ou ov) []) (.inl (some (.int (nI 1)))) h' (mc + 1) (ms + 6) := by
  obtain ⟨k, b, a1, t1, p1, ov1, h2, mc1, ms1, hmc, hms, hL, hM, hI, he⟩ := hP
  obtain ⟨h', hc⟩ := cont k ov1 _ hI
  obtain ⟨T1, K1, os1, sc1, tc1, tp1, tl_1, tn1, trd1, tv1, tdg1, tf1, tla1, pg1, ph1, pc1, pm1, z1, sa1, ro1, te1, fr1, to1, un1, ga1, pi1, be1, bm1, en1, sta1, sv1, ln1, hh1, nv1, nc1, nr1, ne1, a9, b9, q9, rfl, -⟩ := id hI
  have he2 : k = 0 → ov1 0 = b.toInt64 := he
  refine ⟨h', AR.room (show mc1 + mc ≤ mc + 1 by omega) (show ms1 + ms ≤ ms + 6 by omega) ?_⟩
  refine AR.run g_L_law_1482_5 1488 [some (.ref 0), some (.ref 4096), some (.ref 16384), some (.ref 20480), some (.int (nI (i))), none, none, none, none] [.int ((nI (i)) + (nI (1))), .ref 0, .ref 4096] _ [] rfl trivial ?_
  refine AR.ald (n := 0) (e := (i + 1)) ok_L_law_1488 (by first | rfl | (simp only [nI_add, pk_mul]; first | done | rfl)) rfl (by omega) (by first | decide | omega) ?_
  refine AR.run g_L_law_1489_4 1494 [some (.ref 0), some (.ref 4096), some (.ref 16384), some (.ref 20480), some (.int (nI (i))), none, none, none, none] [.int ((nI (i)) + (nI (2))), .ref 0, .int (sx (i + 1)), .ref 4096] _ [] rfl trivial ?_
  refine AR.ald (n := 0) (e := (i + 2)) ok_L_law_1494 (by first | rfl | (simp only [nI_add, pk_mul]; first | done | rfl)) rfl (by omega) (by first | decide | omega) ?_
  refine AR.run g_L_law_1495_4 1500 [some (.ref 0), some (.ref 4096), some (.ref 16384), some (.ref 20480), some (.int (nI (i))), none, none, none, none] [.int ((nI (i)) + (nI (3))), .ref 0, .int (sx (i + 2)), .int (sx (i + 1)), .ref 4096] _ [] rfl trivial ?_
  refine AR.ald (n := 0) (e := (i + 3)) ok_L_law_1500 (by first | rfl | (simp only [nI_add, pk_mul]; first | done | rfl)) rfl (by omega) (by first | decide | omega) ?_
  refine AR.run g_L_law_1501_1 1502 [some (.ref 0), some (.ref 4096), some (.ref 16384), some (.ref 20480), some (.int (nI (i))), none, none, none, none] [.ref 20480, .int (sx (i + 3)), .int (sx (i + 2)), .int (sx (i + 1)), .ref 4096] _ [] rfl trivial ?_
  refine AR.callS (r := some (.int k)) (av := [.ref 4096, .int (sx (i + 1)), .int (sx (i + 2)), .int (sx (i + 3)), .ref 20480]) (rest := []) lk_L_174 dc_L_law_1502 hL (by first | rfl | (simp only [nI_add, pk_mul]; first | done | rfl)) rfl ?_
  refine AR.cast (st' := [.int (k)]) rfl rfl rfl ?_
  refine AR.run g_L_law_1505_6 1513 [some (.ref 0), some (.ref 4096), some (.ref 16384), some (.ref 20480), some (.int (nI (i))), some (.int (k)), none, none, none] [.int ((nI (i)) + (nI (1))), .ref 0, .ref 16384] _ [] rfl trivial ?_
  refine AR.ald (n := 0) (e := (i + 1)) ok_L_law_1513 (by first | rfl | (simp only [nI_add, pk_mul]; first | done | rfl)) rfl (by omega) (by first | decide | omega) ?_
  refine AR.run g_L_law_1514_4 1519 [some (.ref 0), some (.ref 4096), some (.ref 16384), some (.ref 20480), some (.int (nI (i))), some (.int (k)), none, none, none] [.int ((nI (i)) + (nI (2))), .ref 0, .int (sx (i + 1)), .ref 16384] _ [] rfl trivial ?_
  refine AR.ald (n := 0) (e := (i + 2)) ok_L_law_1519 (by first | rfl | (simp only [nI_add, pk_mul]; first | done | rfl)) rfl (by omega) (by first | decide | omega) ?_
  refine AR.run g_L_law_1520_4 1525 [some (.ref 0), some (.ref 4096), some (.ref 16384), some (.ref 20480), some (.int (nI (i))), some (.int (k)), none, none, none] [.int ((nI (i)) + (nI (3))), .ref 0, .int (sx (i + 2)), .int (sx (i + 1)), .ref 16384] _ [] rfl trivial ?_
  refine AR.ald (n := 0) (e := (i + 3)) ok_L_law_1525 (by first | rfl | (simp only [nI_add, pk_mul]; first | done | rfl)) rfl (by omega) (by first | decide | omega) ?_
  refine AR.callV1 (16384) [.int (sx (i + 1)), .int (sx (i + 2)), .int (sx (i + 3))] [] lk_L_176 dc_L_law_1526 rfl rfl hM (by first | rfl | (simp only [nI_add, pk_mul]; first | done | rfl)) rfl ?_
  refine AR.run g_L_law_1529_2 1532 [some (.ref 0), some (.ref 4096), some (.ref 16384), some (.ref 20480), some (.int (nI (i))), some (.int (k)), some (.int (b)), none, none] [.ref 16384] _ [] rfl trivial ?_
  refine AR.callV1 (16384) [] [] lk_L_102 dc_L_law_1532 rfl rfl (s_thrown _) (by first | rfl | (simp only [nI_add, pk_mul]; first | done | rfl)) rfl ?_
  refine AR.run g_L_law_1535_1 1537 [some (.ref 0), some (.ref 4096), some (.ref 16384), some (.ref 20480), some (.int (nI (i))), some (.int (k)), some (.int (b)), none, none] [.int (k), .int (k)] _ [] rfl trivial ?_
  refine AR.eq2 (tgt := 1542) dc_L_law_1537 (by decide) (fun c1537_1 => ?_) (fun c1537_1 => absurd c1537_1 (fun q => q rfl))
  refine AR.run g_L_law_1542_1 1544 [some (.ref 0), some (.ref 4096), some (.ref 16384), some (.ref 20480), some (.int (nI (i))), some (.int (k)), some (.int (b)), none, none] [.int (k)] _ [] rfl trivial ?_
  refine AR.ne (tgt := 1559) dc_L_law_1544 (by decide) (fun c1544_2 => ?_) (fun c1544_2 => ?_)
  · refine AR.run g_L_law_1559_1 1822 [some (.ref 0), some (.ref 4096), some (.ref 16384), some (.ref 20480), some (.int (nI (i))), some (.int (k)), some (.int (b)), none, none] [] _ [] rfl trivial ?_
    refine AR.drop (L' := [some (.ref 0), some (.ref 4096), some (.ref 16384), some (.ref 20480), some (.int (nI (i))), none, none, none, none]) ⟨rfl, rfl, rfl, rfl, rfl, trivial⟩ ?_
    exact hc
  · refine AR.run g_L_law_1547_2 1549 [some (.ref 0), some (.ref 4096), some (.ref 16384), some (.ref 20480), some (.int (nI (i))), some (.int (k)), some (.int (b)), none, none] [.int (nI (0)), .ref 20480] _ [] rfl trivial ?_
    refine AR.lald (n := 0) (e := 0) ok_L_law_1549 (by first | rfl | (simp only [nI_add, pk_mul]; first | done | rfl)) rfl (by omega) (by decide) ?_
    refine AR.run g_L_law_1550_3 1554 [some (.ref 0), some (.ref 4096), some (.ref 16384), some (.ref 20480), some (.int (nI (i))), some (.int (k)), some (.int (b)), none, none] [.int (lg_cmp (ov1 0) (b.toInt64))] _ [] rfl trivial ?_
    refine AR.eq (tgt := 1559) dc_L_law_1554 (by decide) (fun c1554_3 => ?_) (fun c1554_3 => absurd c1554_3 (fun q9 => q9 (lcmp_eq (he2 (by assumption)))))
    refine AR.run g_L_law_1559_1 1822 [some (.ref 0), some (.ref 4096), some (.ref 16384), some (.ref 20480), some (.int (nI (i))), some (.int (k)), some (.int (b)), none, none] [] _ [] rfl trivial ?_
    refine AR.drop (L' := [some (.ref 0), some (.ref 4096), some (.ref 16384), some (.ref 20480), some (.int (nI (i))), none, none, none, none]) ⟨rfl, rfl, rfl, rfl, rfl, trivial⟩ ?_
    exact hc
theorem g_L_law_1562_5 : ab_oks M_L_law [(1562, .aload_n 1, 1, 1, 0, 0, .null), (1563, .aload_n 0, 1, 0, 0, 0, .null), (1564, .iload 4, 2, 4, 0, 0, .null), (1566, .iconst 1, 1, 0, 0, 0, .int (nI (1))), (1567, .iadd, 1, 0, 0, 0, .null)] = true := by decide +kernel
theorem ok_L_law_1568 : ab_ok M_L_law (1568, .iaload, 1, 0, 0, 0, .null) = true := by decide +kernel
theorem g_L_law_1569_4 : ab_oks M_L_law [(1569, .aload_n 0, 1, 0, 0, 0, .null), (1570, .iload 4, 2, 4, 0, 0, .null), (1572, .iconst 2, 1, 0, 0, 0, .int (nI (2))), (1573, .iadd, 1, 0, 0, 0, .null)] = true := by decide +kernel
theorem ok_L_law_1574 : ab_ok M_L_law (1574, .iaload, 1, 0, 0, 0, .null) = true := by decide +kernel
theorem g_L_law_1575_1 : ab_oks M_L_law [(1575, .aload_n 3, 1, 3, 0, 0, .null)] = true := by decide +kernel
theorem lk_L_177 : ab_lkS "LeafCradlesLaw" 177 M_L_ifPassed 4 [904, 905, 90, 906] = true := by decide +kernel
theorem dc_L_law_1576 : decode (AM.bytes M_L_law) 1576 = .ok (.invokestatic 177, 3) := by decide +kernel
theorem g_L_law_1579_6 : ab_oks M_L_law [(1579, .istore 5, 2, 5, 0, 0, .null), (1581, .aload_n 2, 1, 2, 0, 0, .null), (1582, .aload_n 0, 1, 0, 0, 0, .null), (1583, .iload 4, 2, 4, 0, 0, .null), (1585, .iconst 1, 1, 0, 0, 0, .int (nI (1))), (1586, .iadd, 1, 0, 0, 0, .null)] = true := by decide +kernel
theorem ok_L_law_1587 : ab_ok M_L_law (1587, .iaload, 1, 0, 0, 0, .null) = true := by decide +kernel
theorem g_L_law_1588_4 : ab_oks M_L_law [(1588, .aload_n 0, 1, 0, 0, 0, .null), (1589, .iload 4, 2, 4, 0, 0, .null), (1591, .iconst 2, 1, 0, 0, 0, .int (nI (2))), (1592, .iadd, 1, 0, 0, 0, .null)] = true := by decide +kernel
theorem ok_L_law_1593 : ab_ok M_L_law (1593, .iaload, 1, 0, 0, 0, .null) = true := by decide +kernel
theorem lk_L_179 : ab_lkV "LeafCradlesLaw" 179 M_X5_ifPassed 2 [1239, 1240, 1241, 97, 1242] = true := by decide +kernel
theorem dc_L_law_1594 : decode (AM.bytes M_L_law) 1594 = .ok (.invokevirtual 179, 3) := by decide +kernel
theorem g_L_law_1597_2 : ab_oks M_L_law [(1597, .istore 6, 2, 6, 0, 0, .null), (1599, .aload_n 2, 1, 2, 0, 0, .null)] = true := by decide +kernel
theorem dc_L_law_1600 : decode (AM.bytes M_L_law) 1600 = .ok (.invokevirtual 102, 3) := by decide +kernel
theorem g_L_law_1603_1 : ab_oks M_L_law [(1603, .iload 5, 2, 5, 0, 0, .null)] = true := by decide +kernel
theorem dc_L_law_1605 : decode (AM.bytes M_L_law) 1605 = .ok (.if_icmp .eq 5, 3) := by decide +kernel
theorem g_L_law_1610_1 : ab_oks M_L_law [(1610, .iload 5, 2, 5, 0, 0, .null)] = true := by decide +kernel
theorem dc_L_law_1612 : decode (AM.bytes M_L_law) 1612 = .ok (.ifCond .ne 15, 3) := by decide +kernel
theorem g_L_law_1627_1 : ab_oks M_L_law [(1627, .goto 195, 3, 1822, 0, 0, .null)] = true := by decide +kernel
theorem g_L_law_1615_2 : ab_oks M_L_law [(1615, .aload_n 3, 1, 3, 0, 0, .null), (1616, .iconst 0, 1, 0, 0, 0, .int (nI (0)))] = true := by decide +kernel
theorem ok_L_law_1617 : ab_ok M_L_law (1617, .laload, 1, 0, 0, 0, .null) = true := by decide +kernel
theorem g_L_law_1618_3 : ab_oks M_L_law [(1618, .iload 6, 2, 6, 0, 0, .null), (1620, .i2l, 1, 0, 0, 0, .null), (1621, .lcmp, 1, 0, 0, 0, .null)] = true := by decide +kernel
theorem dc_L_law_1622 : decode (AM.bytes M_L_law) 1622 = .ok (.ifCond .eq 5, 3) := by decide +kernel
set_option maxRecDepth 100000 in
set_option maxHeartbeats 4000000 in
theorem la_23 {E : AE} {sx : Nat → Int32} {sl i mc ms : Nat} {T K : Nat → Nat → Int32} {os sc : Int32} {tc tp : Nat → Int32} {tl_ tn trd tv tdg tf tla : Int32} {pg ph pc : Nat → Int32} {pm : Int32} {z sa ro te fr to un ga pi be : Nat → Int32} {bm en sta sv ln th : Int32} {hh : Int64} {ov : Nat → Int64} (hi : i + 4 < sl) (hsl : sl < 100000) (hP : PO E M_L_ifPassed M_X5_ifPassed [.ref 4096, .int (sx (i + 1)), .int (sx (i + 2)), .ref 20480] [.ref 16384, .int (sx (i + 1)), .int (sx (i + 2))] (ol_ sx sl lsS gsS) (ar T K os sc) (te_ tc tp tl_ tn trd tv tdg tf tla) (pl pg ph pc pm) (mo z sa ro te fr to un ga pi be bm en sta sv ln th hh) ov) (cont : ∀ (th : Int32) (ov : Nat → Int64) (h : AH), INV (ol_ sx sl lsS gsS) th ov h → ∃ h' : AH, AR E M_L_law 13 1822 [some (.ref 0), some (.ref 4096), some (.ref 16384), some (.ref 20480), some (.int (nI (i))), none, none, none, none] [] h (.inl (some (.int (nI 1)))) h' mc ms) : ∃ h' : AH, AR E M_L_law 13 1562 [some (.ref 0), some (.ref 4096), some (.ref 16384), some (.ref 20480), some (.int (nI (i))), none, none, none, none] [] (hp (ol_ sx sl lsS gsS) (ar T K os sc) (te_ tc tp tl_ tn trd tv tdg tf tla) (pl pg ph pc pm) (mo z sa ro te fr to un ga pi be bm en sta sv ln th hh) (ou ov) []) (.inl (some (.int (nI 1)))) h' (mc + 1) (ms + 6) := by
  obtain ⟨k, b, a1, t1, p1, ov1, h2, mc1, ms1, hmc, hms, hL, hM, hI, he⟩ := hP
  obtain ⟨h', hc⟩ := cont k ov1 _ hI
  obtain ⟨T1, K1, os1, sc1, tc1, tp1, tl_1, tn1, trd1, tv1, tdg1, tf1, tla1, pg1, ph1, pc1, pm1, z1, sa1, ro1, te1, fr1, to1, un1, ga1, pi1, be1, bm1, en1, sta1, sv1, ln1, hh1, nv1, nc1, nr1, ne1, a9, b9, q9, rfl, -⟩ := id hI
  have he2 : k = 0 → ov1 0 = b.toInt64 := he
  refine ⟨h', AR.room (show mc1 + mc ≤ mc + 1 by omega) (show ms1 + ms ≤ ms + 6 by omega) ?_⟩
  refine AR.run g_L_law_1562_5 1568 [some (.ref 0), some (.ref 4096), some (.ref 16384), some (.ref 20480), some (.int (nI (i))), none, none, none, none] [.int ((nI (i)) + (nI (1))), .ref 0, .ref 4096] _ [] rfl trivial ?_
  refine AR.ald (n := 0) (e := (i + 1)) ok_L_law_1568 (by first | rfl | (simp only [nI_add, pk_mul]; first | done | rfl)) rfl (by omega) (by first | decide | omega) ?_
  refine AR.run g_L_law_1569_4 1574 [some (.ref 0), some (.ref 4096), some (.ref 16384), some (.ref 20480), some (.int (nI (i))), none, none, none, none] [.int ((nI (i)) + (nI (2))), .ref 0, .int (sx (i + 1)), .ref 4096] _ [] rfl trivial ?_
  refine AR.ald (n := 0) (e := (i + 2)) ok_L_law_1574 (by first | rfl | (simp only [nI_add, pk_mul]; first | done | rfl)) rfl (by omega) (by first | decide | omega) ?_
  refine AR.run g_L_law_1575_1 1576 [some (.ref 0), some (.ref 4096), some (.ref 16384), some (.ref 20480), some (.int (nI (i))), none, none, none, none] [.ref 20480, .int (sx (i + 2)), .int (sx (i + 1)), .ref 4096] _ [] rfl trivial ?_
  refine AR.callS (r := some (.int k)) (av := [.ref 4096, .int (sx (i + 1)), .int (sx (i + 2)), .ref 20480]) (rest := []) lk_L_177 dc_L_law_1576 hL (by first | rfl | (simp only [nI_add, pk_mul]; first | done | rfl)) rfl ?_
  refine AR.cast (st' := [.int (k)]) rfl rfl rfl ?_
  refine AR.run g_L_law_1579_6 1587 [some (.ref 0), some (.ref 4096), some (.ref 16384), some (.ref 20480), some (.int (nI (i))), some (.int (k)), none, none, none] [.int ((nI (i)) + (nI (1))), .ref 0, .ref 16384] _ [] rfl trivial ?_
  refine AR.ald (n := 0) (e := (i + 1)) ok_L_law_1587 (by first | rfl | (simp only [nI_add, pk_mul]; first | done | rfl)) rfl (by omega) (by first | decide | omega) ?_
  refine AR.run g_L_law_1588_4 1593 [some (.ref 0), some (.ref 4096), some (.ref 16384), some (.ref 20480), some (.int (nI (i))), some (.int (k)), none, none, none] [.int ((nI (i)) + (nI (2))), .ref 0, .int (sx (i + 1)), .ref 16384] _ [] rfl trivial ?_
  refine AR.ald (n := 0) (e := (i + 2)) ok_L_law_1593 (by first | rfl | (simp only [nI_add, pk_mul]; first | done | rfl)) rfl (by omega) (by first | decide | omega) ?_
  refine AR.callV1 (16384) [.int (sx (i + 1)), .int (sx (i + 2))] [] lk_L_179 dc_L_law_1594 rfl rfl hM (by first | rfl | (simp only [nI_add, pk_mul]; first | done | rfl)) rfl ?_
  refine AR.run g_L_law_1597_2 1600 [some (.ref 0), some (.ref 4096), some (.ref 16384), some (.ref 20480), some (.int (nI (i))), some (.int (k)), some (.int (b)), none, none] [.ref 16384] _ [] rfl trivial ?_
  refine AR.callV1 (16384) [] [] lk_L_102 dc_L_law_1600 rfl rfl (s_thrown _) (by first | rfl | (simp only [nI_add, pk_mul]; first | done | rfl)) rfl ?_
  refine AR.run g_L_law_1603_1 1605 [some (.ref 0), some (.ref 4096), some (.ref 16384), some (.ref 20480), some (.int (nI (i))), some (.int (k)), some (.int (b)), none, none] [.int (k), .int (k)] _ [] rfl trivial ?_
  refine AR.eq2 (tgt := 1610) dc_L_law_1605 (by decide) (fun c1605_1 => ?_) (fun c1605_1 => absurd c1605_1 (fun q => q rfl))
  refine AR.run g_L_law_1610_1 1612 [some (.ref 0), some (.ref 4096), some (.ref 16384), some (.ref 20480), some (.int (nI (i))), some (.int (k)), some (.int (b)), none, none] [.int (k)] _ [] rfl trivial ?_
  refine AR.ne (tgt := 1627) dc_L_law_1612 (by decide) (fun c1612_2 => ?_) (fun c1612_2 => ?_)
  · refine AR.run g_L_law_1627_1 1822 [some (.ref 0), some (.ref 4096), some (.ref 16384), some (.ref 20480), some (.int (nI (i))), some (.int (k)), some (.int (b)), none, none] [] _ [] rfl trivial ?_
    refine AR.drop (L' := [some (.ref 0), some (.ref 4096), some (.ref 16384), some (.ref 20480), some (.int (nI (i))), none, none, none, none]) ⟨rfl, rfl, rfl, rfl, rfl, trivial⟩ ?_
    exact hc
  · refine AR.run g_L_law_1615_2 1617 [some (.ref 0), some (.ref 4096), some (.ref 16384), some (.ref 20480), some (.int (nI (i))), some (.int (k)), some (.int (b)), none, none] [.int (nI (0)), .ref 20480] _ [] rfl trivial ?_
    refine AR.lald (n := 0) (e := 0) ok_L_law_1617 (by first | rfl | (simp only [nI_add, pk_mul]; first | done | rfl)) rfl (by omega) (by decide) ?_
    refine AR.run g_L_law_1618_3 1622 [some (.ref 0), some (.ref 4096), some (.ref 16384), some (.ref 20480), some (.int (nI (i))), some (.int (k)), some (.int (b)), none, none] [.int (lg_cmp (ov1 0) (b.toInt64))] _ [] rfl trivial ?_
    refine AR.eq (tgt := 1627) dc_L_law_1622 (by decide) (fun c1622_3 => ?_) (fun c1622_3 => absurd c1622_3 (fun q9 => q9 (lcmp_eq (he2 (by assumption)))))
    refine AR.run g_L_law_1627_1 1822 [some (.ref 0), some (.ref 4096), some (.ref 16384), some (.ref 20480), some (.int (nI (i))), some (.int (k)), some (.int (b)), none, none] [] _ [] rfl trivial ?_
    refine AR.drop (L' := [some (.ref 0), some (.ref 4096), some (.ref 16384), some (.ref 20480), some (.int (nI (i))), none, none, none, none]) ⟨rfl, rfl, rfl, rfl, rfl, trivial⟩ ?_
    exact hc
theorem g_L_law_1630_1 : ab_oks M_L_law [(1630, .aload_n 1, 1, 1, 0, 0, .null)] = true := by decide +kernel
theorem lk_L_180 : ab_lkV "LeafCradlesLaw" 180 M_X4_doneIn 0 [309, 310, 311, 91, 312] = true := by decide +kernel
theorem dc_L_law_1631 : decode (AM.bytes M_L_law) 1631 = .ok (.invokevirtual 180, 3) := by decide +kernel
theorem g_L_law_1634_1 : ab_oks M_L_law [(1634, .aload_n 2, 1, 2, 0, 0, .null)] = true := by decide +kernel
theorem lk_L_183 : ab_lkV "LeafCradlesLaw" 183 M_X5_doneIn 0 [1259, 1260, 1261, 97, 1262] = true := by decide +kernel
theorem dc_L_law_1635 : decode (AM.bytes M_L_law) 1635 = .ok (.invokevirtual 183, 3) := by decide +kernel
theorem dc_L_law_1638 : decode (AM.bytes M_L_law) 1638 = .ok (.if_icmp .eq 184, 3) := by decide +kernel
set_option maxRecDepth 100000 in
set_option maxHeartbeats 4000000 in
theorem la_24 {E : AE} {sx : Nat → Int32} {sl i mc ms : Nat} {T K : Nat → Nat → Int32} {os sc : Int32} {tc tp : Nat → Int32} {tl_ tn trd tv tdg tf tla : Int32} {pg ph pc : Nat → Int32} {pm : Int32} {z sa ro te fr to un ga pi be : Nat → Int32} {bm en sta sv ln th : Int32} {hh : Int64} {ov : Nat → Int64} (hi : i + 4 < sl) (hsl : sl < 100000) (hP : ∃ x : Int32, PD E M_X4_doneIn M_X5_doneIn (.int x) (ol_ sx sl lsS gsS) (ar T K os sc) (te_ tc tp tl_ tn trd tv tdg tf tla) (pl pg ph pc pm) (mo z sa ro te fr to un ga pi be bm en sta sv ln th hh) ov) (cont : ∀ (th : Int32) (ov : Nat → Int64) (h : AH), INV (ol_ sx sl lsS gsS) th ov h → ∃ h' : AH, AR E M_L_law 13 1822 [some (.ref 0), some (.ref 4096), some (.ref 16384), some (.ref 20480), some (.int (nI (i))), none, none, none, none] [] h (.inl (some (.int (nI 1)))) h' mc ms) : ∃ h' : AH, AR E M_L_law 13 1630 [some (.ref 0), some (.ref 4096), some (.ref 16384), some (.ref 20480), some (.int (nI (i))), none, none, none, none] [] (hp (ol_ sx sl lsS gsS) (ar T K os sc) (te_ tc tp tl_ tn trd tv tdg tf tla) (pl pg ph pc pm) (mo z sa ro te fr to un ga pi be bm en sta sv ln th hh) (ou ov) []) (.inl (some (.int (nI 1)))) h' (mc + 1) (ms + 6) := by
  obtain ⟨x, a1, t1, p1, h2, th1, hL, hM, hI⟩ := hP
  obtain ⟨h', hc⟩ := cont th1 ov _ hI
  obtain ⟨T1, K1, os1, sc1, tc1, tp1, tl_1, tn1, trd1, tv1, tdg1, tf1, tla1, pg1, ph1, pc1, pm1, z1, sa1, ro1, te1, fr1, to1, un1, ga1, pi1, be1, bm1, en1, sta1, sv1, ln1, hh1, nv1, nc1, nr1, ne1, a9, b9, q9, rfl, -⟩ := id hI
  refine ⟨h', AR.room (show mc ≤ mc + 1 by omega) (show ms ≤ ms + 6 by omega) ?_⟩
  refine AR.run g_L_law_1630_1 1631 [some (.ref 0), some (.ref 4096), some (.ref 16384), some (.ref 20480), some (.int (nI (i))), none, none, none, none] [.ref 4096] _ [] rfl trivial ?_
  refine AR.callV1 (4096) [] [] lk_L_180 dc_L_law_1631 rfl rfl (hL) (by first | rfl | (simp only [nI_add, pk_mul]; first | done | rfl)) rfl ?_
  refine AR.run g_L_law_1634_1 1635 [some (.ref 0), some (.ref 4096), some (.ref 16384), some (.ref 20480), some (.int (nI (i))), none, none, none, none] [.ref 16384, .int (x)] _ [] rfl trivial ?_
  refine AR.callV1 (16384) [] [.int (x)] lk_L_183 dc_L_law_1635 rfl rfl (hM) (by first | rfl | (simp only [nI_add, pk_mul]; first | done | rfl)) rfl ?_
  refine AR.eq2 (tgt := 1822) dc_L_law_1638 (by decide) (fun c1638_1 => ?_) (fun c1638_1 => absurd c1638_1 (fun q => q rfl))
  exact hc
theorem g_L_law_1643_5 : ab_oks M_L_law [(1643, .aload_n 1, 1, 1, 0, 0, .null), (1644, .aload_n 0, 1, 0, 0, 0, .null), (1645, .iload 4, 2, 4, 0, 0, .null), (1647, .iconst 1, 1, 0, 0, 0, .int (nI (1))), (1648, .iadd, 1, 0, 0, 0, .null)] = true := by decide +kernel
theorem ok_L_law_1649 : ab_ok M_L_law (1649, .iaload, 1, 0, 0, 0, .null) = true := by decide +kernel
theorem g_L_law_1650_1 : ab_oks M_L_law [(1650, .aload_n 3, 1, 3, 0, 0, .null)] = true := by decide +kernel
theorem lk_L_184 : ab_lkS "LeafCradlesLaw" 184 M_L_quickest 3 [916, 917, 90, 918] = true := by decide +kernel
theorem dc_L_law_1651 : decode (AM.bytes M_L_law) 1651 = .ok (.invokestatic 184, 3) := by decide +kernel
theorem g_L_law_1654_6 : ab_oks M_L_law [(1654, .istore 5, 2, 5, 0, 0, .null), (1656, .aload_n 2, 1, 2, 0, 0, .null), (1657, .aload_n 0, 1, 0, 0, 0, .null), (1658, .iload 4, 2, 4, 0, 0, .null), (1660, .iconst 1, 1, 0, 0, 0, .int (nI (1))), (1661, .iadd, 1, 0, 0, 0, .null)] = true := by decide +kernel
theorem ok_L_law_1662 : ab_ok M_L_law (1662, .iaload, 1, 0, 0, 0, .null) = true := by decide +kernel
theorem lk_L_186 : ab_lkV "LeafCradlesLaw" 186 M_X5_quickest 1 [1271, 1272, 1273, 97, 1274] = true := by decide +kernel
theorem dc_L_law_1663 : decode (AM.bytes M_L_law) 1663 = .ok (.invokevirtual 186, 3) := by decide +kernel
theorem g_L_law_1666_2 : ab_oks M_L_law [(1666, .istore 6, 2, 6, 0, 0, .null), (1668, .aload_n 2, 1, 2, 0, 0, .null)] = true := by decide +kernel
theorem dc_L_law_1669 : decode (AM.bytes M_L_law) 1669 = .ok (.invokevirtual 102, 3) := by decide +kernel
theorem g_L_law_1672_1 : ab_oks M_L_law [(1672, .iload 5, 2, 5, 0, 0, .null)] = true := by decide +kernel
theorem dc_L_law_1674 : decode (AM.bytes M_L_law) 1674 = .ok (.if_icmp .eq 5, 3) := by decide +kernel
theorem g_L_law_1679_1 : ab_oks M_L_law [(1679, .iload 5, 2, 5, 0, 0, .null)] = true := by decide +kernel
theorem dc_L_law_1681 : decode (AM.bytes M_L_law) 1681 = .ok (.ifCond .ne 15, 3) := by decide +kernel
theorem g_L_law_1696_1 : ab_oks M_L_law [(1696, .goto 126, 3, 1822, 0, 0, .null)] = true := by decide +kernel
theorem g_L_law_1684_2 : ab_oks M_L_law [(1684, .aload_n 3, 1, 3, 0, 0, .null), (1685, .iconst 0, 1, 0, 0, 0, .int (nI (0)))] = true := by decide +kernel
theorem ok_L_law_1686 : ab_ok M_L_law (1686, .laload, 1, 0, 0, 0, .null) = true := by decide +kernel
theorem g_L_law_1687_3 : ab_oks M_L_law [(1687, .iload 6, 2, 6, 0, 0, .null), (1689, .i2l, 1, 0, 0, 0, .null), (1690, .lcmp, 1, 0, 0, 0, .null)] = true := by decide +kernel
theorem dc_L_law_1691 : decode (AM.bytes M_L_law) 1691 = .ok (.ifCond .eq 5, 3) := by decide +kernel
set_option maxRecDepth 100000 in
set_option maxHeartbeats 4000000 in
theorem la_25 {E : AE} {sx : Nat → Int32} {sl i mc ms : Nat} {T K : Nat → Nat → Int32} {os sc : Int32} {tc tp : Nat → Int32} {tl_ tn trd tv tdg tf tla : Int32} {pg ph pc : Nat → Int32} {pm : Int32} {z sa ro te fr to un ga pi be : Nat → Int32} {bm en sta sv ln th : Int32} {hh : Int64} {ov : Nat → Int64} (hi : i + 4 < sl) (hsl : sl < 100000) (hP : PO E M_L_quickest M_X5_quickest [.ref 4096, .int (sx (i + 1)), .ref 20480] [.ref 16384, .int (sx (i + 1))] (ol_ sx sl lsS gsS) (ar T K os sc) (te_ tc tp tl_ tn trd tv tdg tf tla) (pl pg ph pc pm) (mo z sa ro te fr to un ga pi be bm en sta sv ln th hh) ov) (cont : ∀ (th : Int32) (ov : Nat → Int64) (h : AH), INV (ol_ sx sl lsS gsS) th ov h → ∃ h' : AH, AR E M_L_law 13 1822 [some (.ref 0), some (.ref 4096), some (.ref 16384), some (.ref 20480), some (.int (nI (i))), none, none, none, none] [] h (.inl (some (.int (nI 1)))) h' mc ms) : ∃ h' : AH, AR E M_L_law 13 1643 [some (.ref 0), some (.ref 4096), some (.ref 16384), some (.ref 20480), some (.int (nI (i))), none, none, none, none] [] (hp (ol_ sx sl lsS gsS) (ar T K os sc) (te_ tc tp tl_ tn trd tv tdg tf tla) (pl pg ph pc pm) (mo z sa ro te fr to un ga pi be bm en sta sv ln th hh) (ou ov) []) (.inl (some (.int (nI 1)))) h' (mc + 1) (ms + 6) := by
  obtain ⟨k, b, a1, t1, p1, ov1, h2, mc1, ms1, hmc, hms, hL, hM, hI, he⟩ := hP
  obtain ⟨h', hc⟩ := cont k ov1 _ hI
  obtain ⟨T1, K1, os1, sc1, tc1, tp1, tl_1, tn1, trd1, tv1, tdg1, tf1, tla1, pg1, ph1, pc1, pm1, z1, sa1, ro1, te1, fr1, to1, un1, ga1, pi1, be1, bm1, en1, sta1, sv1, ln1, hh1, nv1, nc1, nr1, ne1, a9, b9, q9, rfl, -⟩ := id hI
  have he2 : k = 0 → ov1 0 = b.toInt64 := he
  refine ⟨h', AR.room (show mc1 + mc ≤ mc + 1 by omega) (show ms1 + ms ≤ ms + 6 by omega) ?_⟩
  refine AR.run g_L_law_1643_5 1649 [some (.ref 0), some (.ref 4096), some (.ref 16384), some (.ref 20480), some (.int (nI (i))), none, none, none, none] [.int ((nI (i)) + (nI (1))), .ref 0, .ref 4096] _ [] rfl trivial ?_
  refine AR.ald (n := 0) (e := (i + 1)) ok_L_law_1649 (by first | rfl | (simp only [nI_add, pk_mul]; first | done | rfl)) rfl (by omega) (by first | decide | omega) ?_
  refine AR.run g_L_law_1650_1 1651 [some (.ref 0), some (.ref 4096), some (.ref 16384), some (.ref 20480), some (.int (nI (i))), none, none, none, none] [.ref 20480, .int (sx (i + 1)), .ref 4096] _ [] rfl trivial ?_
  refine AR.callS (r := some (.int k)) (av := [.ref 4096, .int (sx (i + 1)), .ref 20480]) (rest := []) lk_L_184 dc_L_law_1651 hL (by first | rfl | (simp only [nI_add, pk_mul]; first | done | rfl)) rfl ?_
  refine AR.cast (st' := [.int (k)]) rfl rfl rfl ?_
  refine AR.run g_L_law_1654_6 1662 [some (.ref 0), some (.ref 4096), some (.ref 16384), some (.ref 20480), some (.int (nI (i))), some (.int (k)), none, none, none] [.int ((nI (i)) + (nI (1))), .ref 0, .ref 16384] _ [] rfl trivial ?_
  refine AR.ald (n := 0) (e := (i + 1)) ok_L_law_1662 (by first | rfl | (simp only [nI_add, pk_mul]; first | done | rfl)) rfl (by omega) (by first | decide | omega) ?_
  refine AR.callV1 (16384) [.int (sx (i + 1))] [] lk_L_186 dc_L_law_1663 rfl rfl hM (by first | rfl | (simp only [nI_add, pk_mul]; first | done | rfl)) rfl ?_
  refine AR.run g_L_law_1666_2 1669 [some (.ref 0), some (.ref 4096), some (.ref 16384), some (.ref 20480), some (.int (nI (i))), some (.int (k)), some (.int (b)), none, none] [.ref 16384] _ [] rfl trivial ?_
  refine AR.callV1 (16384) [] [] lk_L_102 dc_L_law_1669 rfl rfl (s_thrown _) (by first | rfl | (simp only [nI_add, pk_mul]; first | done | rfl)) rfl ?_
  refine AR.run g_L_law_1672_1 1674 [some (.ref 0), some (.ref 4096), some (.ref 16384), some (.ref 20480), some (.int (nI (i))), some (.int (k)), some (.int (b)), none, none] [.int (k), .int (k)] _ [] rfl trivial ?_
  refine AR.eq2 (tgt := 1679) dc_L_law_1674 (by decide) (fun c1674_1 => ?_) (fun c1674_1 => absurd c1674_1 (fun q => q rfl))
  refine AR.run g_L_law_1679_1 1681 [some (.ref 0), some (.ref 4096), some (.ref 16384), some (.ref 20480), some (.int (nI (i))), some (.int (k)), some (.int (b)), none, none] [.int (k)] _ [] rfl trivial ?_
  refine AR.ne (tgt := 1696) dc_L_law_1681 (by decide) (fun c1681_2 => ?_) (fun c1681_2 => ?_)
  · refine AR.run g_L_law_1696_1 1822 [some (.ref 0), some (.ref 4096), some (.ref 16384), some (.ref 20480), some (.int (nI (i))), some (.int (k)), some (.int (b)), none, none] [] _ [] rfl trivial ?_
    refine AR.drop (L' := [some (.ref 0), some (.ref 4096), some (.ref 16384), some (.ref 20480), some (.int (nI (i))), none, none, none, none]) ⟨rfl, rfl, rfl, rfl, rfl, trivial⟩ ?_
    exact hc
  · refine AR.run g_L_law_1684_2 1686 [some (.ref 0), some (.ref 4096), some (.ref 16384), some (.ref 20480), some (.int (nI (i))), some (.int (k)), some (.int (b)), none, none] [.int (nI (0)), .ref 20480] _ [] rfl trivial ?_
    refine AR.lald (n := 0) (e := 0) ok_L_law_1686 (by first | rfl | (simp only [nI_add, pk_mul]; first | done | rfl)) rfl (by omega) (by decide) ?_
    refine AR.run g_L_law_1687_3 1691 [some (.ref 0), some (.ref 4096), some (.ref 16384), some (.ref 20480), some (.int (nI (i))), some (.int (k)), some (.int (b)), none, none] [.int (lg_cmp (ov1 0) (b.toInt64))] _ [] rfl trivial ?_
    refine AR.eq (tgt := 1696) dc_L_law_1691 (by decide) (fun c1691_3 => ?_) (fun c1691_3 => absurd c1691_3 (fun q9 => q9 (lcmp_eq (he2 (by assumption)))))
    refine AR.run g_L_law_1696_1 1822 [some (.ref 0), some (.ref 4096), some (.ref 16384), some (.ref 20480), some (.int (nI (i))), some (.int (k)), some (.int (b)), none, none] [] _ [] rfl trivial ?_
    refine AR.drop (L' := [some (.ref 0), some (.ref 4096), some (.ref 16384), some (.ref 20480), some (.int (nI (i))), none, none, none, none]) ⟨rfl, rfl, rfl, rfl, rfl, trivial⟩ ?_
    exact hc
theorem g_L_law_1699_5 : ab_oks M_L_law [(1699, .aload_n 1, 1, 1, 0, 0, .null), (1700, .aload_n 0, 1, 0, 0, 0, .null), (1701, .iload 4, 2, 4, 0, 0, .null), (1703, .iconst 1, 1, 0, 0, 0, .int (nI (1))), (1704, .iadd, 1, 0, 0, 0, .null)] = true := by decide +kernel
theorem ok_L_law_1705 : ab_ok M_L_law (1705, .iaload, 1, 0, 0, 0, .null) = true := by decide +kernel
theorem g_L_law_1706_4 : ab_oks M_L_law [(1706, .aload_n 0, 1, 0, 0, 0, .null), (1707, .iload 4, 2, 4, 0, 0, .null), (1709, .iconst 2, 1, 0, 0, 0, .int (nI (2))), (1710, .iadd, 1, 0, 0, 0, .null)] = true := by decide +kernel
theorem ok_L_law_1711 : ab_ok M_L_law (1711, .iaload, 1, 0, 0, 0, .null) = true := by decide +kernel
theorem g_L_law_1712_1 : ab_oks M_L_law [(1712, .aload_n 3, 1, 3, 0, 0, .null)] = true := by decide +kernel
theorem lk_L_187 : ab_lkS "LeafCradlesLaw" 187 M_L_bestLoad 4 [923, 924, 90, 925] = true := by decide +kernel
theorem dc_L_law_1713 : decode (AM.bytes M_L_law) 1713 = .ok (.invokestatic 187, 3) := by decide +kernel
theorem g_L_law_1716_6 : ab_oks M_L_law [(1716, .istore 5, 2, 5, 0, 0, .null), (1718, .aload_n 2, 1, 2, 0, 0, .null), (1719, .aload_n 0, 1, 0, 0, 0, .null), (1720, .iload 4, 2, 4, 0, 0, .null), (1722, .iconst 1, 1, 0, 0, 0, .int (nI (1))), (1723, .iadd, 1, 0, 0, 0, .null)] = true := by decide +kernel
theorem ok_L_law_1724 : ab_ok M_L_law (1724, .iaload, 1, 0, 0, 0, .null) = true := by decide +kernel
theorem g_L_law_1725_4 : ab_oks M_L_law [(1725, .aload_n 0, 1, 0, 0, 0, .null), (1726, .iload 4, 2, 4, 0, 0, .null), (1728, .iconst 2, 1, 0, 0, 0, .int (nI (2))), (1729, .iadd, 1, 0, 0, 0, .null)] = true := by decide +kernel
theorem ok_L_law_1730 : ab_ok M_L_law (1730, .iaload, 1, 0, 0, 0, .null) = true := by decide +kernel
theorem lk_L_189 : ab_lkV "LeafCradlesLaw" 189 M_X5_bestLoad 2 [1279, 1280, 1281, 97, 1282] = true := by decide +kernel
theorem dc_L_law_1731 : decode (AM.bytes M_L_law) 1731 = .ok (.invokevirtual 189, 3) := by decide +kernel
theorem g_L_law_1734_2 : ab_oks M_L_law [(1734, .istore 6, 2, 6, 0, 0, .null), (1736, .aload_n 2, 1, 2, 0, 0, .null)] = true := by decide +kernel
theorem dc_L_law_1737 : decode (AM.bytes M_L_law) 1737 = .ok (.invokevirtual 102, 3) := by decide +kernel
theorem g_L_law_1740_1 : ab_oks M_L_law [(1740, .iload 5, 2, 5, 0, 0, .null)] = true := by decide +kernel
theorem dc_L_law_1742 : decode (AM.bytes M_L_law) 1742 = .ok (.if_icmp .eq 5, 3) := by decide +kernel
theorem g_L_law_1747_1 : ab_oks M_L_law [(1747, .iload 5, 2, 5, 0, 0, .null)] = true := by decide +kernel
theorem dc_L_law_1749 : decode (AM.bytes M_L_law) 1749 = .ok (.ifCond .ne 15, 3) := by decide +kernel
theorem g_L_law_1764_1 : ab_oks M_L_law [(1764, .goto 58, 3, 1822, 0, 0, .null)] = true := by decide +kernel
theorem g_L_law_1752_2 : ab_oks M_L_law [(1752, .aload_n 3, 1, 3, 0, 0, .null), (1753, .iconst 0, 1, 0, 0, 0, .int (nI (0)))] = true := by decide +kernel
theorem ok_L_law_1754 : ab_ok M_L_law (1754, .laload, 1, 0, 0, 0, .null) = true := by decide +kernel
theorem g_L_law_1755_3 : ab_oks M_L_law [(1755, .iload 6, 2, 6, 0, 0, .null), (1757, .i2l, 1, 0, 0, 0, .null), (1758, .lcmp, 1, 0, 0, 0, .null)] = true := by decide +kernel
theorem dc_L_law_1759 : decode (AM.bytes M_L_law) 1759 = .ok (.ifCond .eq 5, 3) := by decide +kernel
set_option maxRecDepth 100000 in
set_option maxHeartbeats 4000000 in
theorem la_26 {E : AE} {sx : Nat → Int32} {sl i mc ms : Nat} {T K : Nat → Nat → Int32} {os sc : Int32} {tc tp : Nat → Int32} {tl_ tn trd tv tdg tf tla : Int32} {pg ph pc : Nat → Int32} {pm : Int32} {z sa ro te fr to un ga pi be : Nat → Int32} {bm en sta sv ln th : Int32} {hh : Int64} {ov : Nat → Int64} (hi : i + 4 < sl) (hsl : sl < 100000) (hP : PO E M_L_bestLoad M_X5_bestLoad [.ref 4096, .int (sx (i + 1)), .int (sx (i + 2)), .ref 20480] [.ref 16384, .int (sx (i + 1)), .int (sx (i + 2))] (ol_ sx sl lsS gsS) (ar T K os sc) (te_ tc tp tl_ tn trd tv tdg tf tla) (pl pg ph pc pm) (mo z sa ro te fr to un ga pi be bm en sta sv ln th hh) ov) (cont : ∀ (th : Int32) (ov : Nat → Int64) (h : AH), INV (ol_ sx sl lsS gsS) th ov h → ∃ h' : AH, AR E M_L_law 13 1822 [some (.ref 0), some (.ref 4096), some (.ref 16384), some (.ref 20480), some (.int (nI (i))), none, none, none, none] [] h (.inl (some (.int (nI 1)))) h' mc ms) : ∃ h' : AH, AR E M_L_law 13 1699 [some (.ref 0), some (.ref 4096), some (.ref 16384), some (.ref 20480), some (.int (nI (i))), none, none, none, none] [] (hp (ol_ sx sl lsS gsS) (ar T K os sc) (te_ tc tp tl_ tn trd tv tdg tf tla) (pl pg ph pc pm) (mo z sa ro te fr to un ga pi be bm en sta sv ln th hh) (ou ov) []) (.inl (some (.int (nI 1)))) h' (mc + 1) (ms + 6) := by
  obtain ⟨k, b, a1, t1, p1, ov1, h2, mc1, ms1, hmc, hms, hL, hM, hI, he⟩ := hP
  obtain ⟨h', hc⟩ := cont k ov1 _ hI
  obtain ⟨T1, K1, os1, sc1, tc1, tp1, tl_1, tn1, trd1, tv1, tdg1, tf1, tla1, pg1, ph1, pc1, pm1, z1, sa1, ro1, te1, fr1, to1, un1, ga1, pi1, be1, bm1, en1, sta1, sv1, ln1, hh1, nv1, nc1, nr1, ne1, a9, b9, q9, rfl, -⟩ := id hI
  have he2 : k = 0 → ov1 0 = b.toInt64 := he
  refine ⟨h', AR.room (show mc1 + mc ≤ mc + 1 by omega) (show ms1 + ms ≤ ms + 6 by omega) ?_⟩
  refine AR.run g_L_law_1699_5 1705 [some (.ref 0), some (.ref 4096), some (.ref 16384), some (.ref 20480), some (.int (nI (i))), none, none, none, none] [.int ((nI (i)) + (nI (1))), .ref 0, .ref 4096] _ [] rfl trivial ?_
  refine AR.ald (n := 0) (e := (i + 1)) ok_L_law_1705 (by first | rfl | (simp only [nI_add, pk_mul]; first | done | rfl)) rfl (by omega) (by first | decide | omega) ?_
  refine AR.run g_L_law_1706_4 1711 [some (.ref 0), some (.ref 4096), some (.ref 16384), some (.ref 20480), some (.int (nI (i))), none, none, none, none] [.int ((nI (i)) + (nI (2))), .ref 0, .int (sx (i + 1)), .ref 4096] _ [] rfl trivial ?_
  refine AR.ald (n := 0) (e := (i + 2)) ok_L_law_1711 (by first | rfl | (simp only [nI_add, pk_mul]; first | done | rfl)) rfl (by omega) (by first | decide | omega) ?_
  refine AR.run g_L_law_1712_1 1713 [some (.ref 0), some (.ref 4096), some (.ref 16384), some (.ref 20480), some (.int (nI (i))), none, none, none, none] [.ref 20480, .int (sx (i + 2)), .int (sx (i + 1)), .ref 4096] _ [] rfl trivial ?_
  refine AR.callS (r := some (.int k)) (av := [.ref 4096, .int (sx (i + 1)), .int (sx (i + 2)), .ref 20480]) (rest := []) lk_L_187 dc_L_law_1713 hL (by first | rfl | (simp only [nI_add, pk_mul]; first | done | rfl)) rfl ?_
  refine AR.cast (st' := [.int (k)]) rfl rfl rfl ?_
  refine AR.run g_L_law_1716_6 1724 [some (.ref 0), some (.ref 4096), some (.ref 16384), some (.ref 20480), some (.int (nI (i))), some (.int (k)), none, none, none] [.int ((nI (i)) + (nI (1))), .ref 0, .ref 16384] _ [] rfl trivial ?_
  refine AR.ald (n := 0) (e := (i + 1)) ok_L_law_1724 (by first | rfl | (simp only [nI_add, pk_mul]; first | done | rfl)) rfl (by omega) (by first | decide | omega) ?_
  refine AR.run g_L_law_1725_4 1730 [some (.ref 0), some (.ref 4096), some (.ref 16384), some (.ref 20480), some (.int (nI (i))), some (.int (k)), none, none, none] [.int ((nI (i)) + (nI (2))), .ref 0, .int (sx (i + 1)), .ref 16384] _ [] rfl trivial ?_
  refine AR.ald (n := 0) (e := (i + 2)) ok_L_law_1730 (by first | rfl | (simp only [nI_add, pk_mul]; first | done | rfl)) rfl (by omega) (by first | decide | omega) ?_
  refine AR.callV1 (16384) [.int (sx (i + 1)), .int (sx (i + 2))] [] lk_L_189 dc_L_law_1731 rfl rfl hM (by first | rfl | (simp only [nI_add, pk_mul]; first | done | rfl)) rfl ?_
  refine AR.run g_L_law_1734_2 1737 [some (.ref 0), some (.ref 4096), some (.ref 16384), some (.ref 20480), some (.int (nI (i))), some (.int (k)), some (.int (b)), none, none] [.ref 16384] _ [] rfl trivial ?_
  refine AR.callV1 (16384) [] [] lk_L_102 dc_L_law_1737 rfl rfl (s_thrown _) (by first | rfl | (simp only [nI_add, pk_mul]; first | done | rfl)) rfl ?_
  refine AR.run g_L_law_1740_1 1742 [some (.ref 0), some (.ref 4096), some (.ref 16384), some (.ref 20480), some (.int (nI (i))), some (.int (k)), some (.int (b)), none, none] [.int (k), .int (k)] _ [] rfl trivial ?_
  refine AR.eq2 (tgt := 1747) dc_L_law_1742 (by decide) (fun c1742_1 => ?_) (fun c1742_1 => absurd c1742_1 (fun q => q rfl))
  refine AR.run g_L_law_1747_1 1749 [some (.ref 0), some (.ref 4096), some (.ref 16384), some (.ref 20480), some (.int (nI (i))), some (.int (k)), some (.int (b)), none, none] [.int (k)] _ [] rfl trivial ?_
  refine AR.ne (tgt := 1764) dc_L_law_1749 (by decide) (fun c1749_2 => ?_) (fun c1749_2 => ?_)
  · refine AR.run g_L_law_1764_1 1822 [some (.ref 0), some (.ref 4096), some (.ref 16384), some (.ref 20480), some (.int (nI (i))), some (.int (k)), some (.int (b)), none, none] [] _ [] rfl trivial ?_
    refine AR.drop (L' := [some (.ref 0), some (.ref 4096), some (.ref 16384), some (.ref 20480), some (.int (nI (i))), none, none, none, none]) ⟨rfl, rfl, rfl, rfl, rfl, trivial⟩ ?_
    exact hc
  · refine AR.run g_L_law_1752_2 1754 [some (.ref 0), some (.ref 4096), some (.ref 16384), some (.ref 20480), some (.int (nI (i))), some (.int (k)), some (.int (b)), none, none] [.int (nI (0)), .ref 20480] _ [] rfl trivial ?_
    refine AR.lald (n := 0) (e := 0) ok_L_law_1754 (by first | rfl | (simp only [nI_add, pk_mul]; first | done | rfl)) rfl (by omega) (by decide) ?_
    refine AR.run g_L_law_1755_3 1759 [some (.ref 0), some (.ref 4096), some (.ref 16384), some (.ref 20480), some (.int (nI (i))), some (.int (k)), some (.int (b)), none, none] [.int (lg_cmp (ov1 0) (b.toInt64))] _ [] rfl trivial ?_
    refine AR.eq (tgt := 1764) dc_L_law_1759 (by decide) (fun c1759_3 => ?_) (fun c1759_3 => absurd c1759_3 (fun q9 => q9 (lcmp_eq (he2 (by assumption)))))
    refine AR.run g_L_law_1764_1 1822 [some (.ref 0), some (.ref 4096), some (.ref 16384), some (.ref 20480), some (.int (nI (i))), some (.int (k)), some (.int (b)), none, none] [] _ [] rfl trivial ?_
    refine AR.drop (L' := [some (.ref 0), some (.ref 4096), some (.ref 16384), some (.ref 20480), some (.int (nI (i))), none, none, none, none]) ⟨rfl, rfl, rfl, rfl, rfl, trivial⟩ ?_
    exact hc
theorem g_L_law_1767_1 : ab_oks M_L_law [(1767, .aload_n 1, 1, 1, 0, 0, .null)] = true := by decide +kernel
theorem lk_L_190 : ab_lkV "LeafCradlesLaw" 190 M_X4_openShare 0 [361, 362, 363, 91, 364] = true := by decide +kernel
theorem dc_L_law_1768 : decode (AM.bytes M_L_law) 1768 = .ok (.invokevirtual 190, 3) := by decide +kernel
theorem g_L_law_1771_2 : ab_oks M_L_law [(1771, .dstore 5, 2, 5, 0, 0, .null), (1773, .aload_n 2, 1, 2, 0, 0, .null)] = true := by decide +kernel
theorem lk_L_194 : ab_lkV "LeafCradlesLaw" 194 M_X5_openShare 0 [1315, 1316, 1317, 97, 1318] = true := by decide +kernel
theorem dc_L_law_1774 : decode (AM.bytes M_L_law) 1774 = .ok (.invokevirtual 194, 3) := by decide +kernel
theorem g_L_law_1777_4 : ab_oks M_L_law [(1777, .dstore 7, 2, 7, 0, 0, .null), (1779, .dload 5, 2, 5, 0, 0, .null), (1781, .dload 7, 2, 7, 0, 0, .null), (1783, .dcmp .l, 1, 0, 0, 0, .null)] = true := by decide +kernel
theorem dc_L_law_1784 : decode (AM.bytes M_L_law) 1784 = .ok (.ifCond .eq 21, 3) := by decide +kernel
theorem g_L_law_1805_1 : ab_oks M_L_law [(1805, .goto 17, 3, 1822, 0, 0, .null)] = true := by decide +kernel
set_option maxRecDepth 100000 in
set_option maxHeartbeats 4000000 in
theorem la_27 {E : AE} {sx : Nat → Int32} {sl i mc ms : Nat} {T K : Nat → Nat → Int32} {os sc : Int32} {tc tp : Nat → Int32} {tl_ tn trd tv tdg tf tla : Int32} {pg ph pc : Nat → Int32} {pm : Int32} {z sa ro te fr to un ga pi be : Nat → Int32} {bm en sta sv ln th : Int32} {hh : Int64} {ov : Nat → Int64} (hi : i + 4 < sl) (hsl : sl < 100000) (hP : ∃ x : UInt64, SHd x ∧ PD E M_X4_openShare M_X5_openShare (.double x) (ol_ sx sl lsS gsS) (ar T K os sc) (te_ tc tp tl_ tn trd tv tdg tf tla) (pl pg ph pc pm) (mo z sa ro te fr to un ga pi be bm en sta sv ln th hh) ov) (cont : ∀ (th : Int32) (ov : Nat → Int64) (h : AH), INV (ol_ sx sl lsS gsS) th ov h → ∃ h' : AH, AR E M_L_law 13 1822 [some (.ref 0), some (.ref 4096), some (.ref 16384), some (.ref 20480), some (.int (nI (i))), none, none, none, none] [] h (.inl (some (.int (nI 1)))) h' mc ms) : ∃ h' : AH, AR E M_L_law 13 1767 [some (.ref 0), some (.ref 4096), some (.ref 16384), some (.ref 20480), some (.int (nI (i))), none, none, none, none] [] (hp (ol_ sx sl lsS gsS) (ar T K os sc) (te_ tc tp tl_ tn trd tv tdg tf tla) (pl pg ph pc pm) (mo z sa ro te fr to un ga pi be bm en sta sv ln th hh) (ou ov) []) (.inl (some (.int (nI 1)))) h' (mc + 1) (ms + 6) := by
  obtain ⟨x, hsh, a1, t1, p1, h2, th1, hL, hM, hI⟩ := hP
  obtain ⟨h', hc⟩ := cont th1 ov _ hI
  obtain ⟨T1, K1, os1, sc1, tc1, tp1, tl_1, tn1, trd1, tv1, tdg1, tf1, tla1, pg1, ph1, pc1, pm1, z1, sa1, ro1, te1, fr1, to1, un1, ga1, pi1, be1, bm1, en1, sta1, sv1, ln1, hh1, nv1, nc1, nr1, ne1, a9, b9, q9, rfl, -⟩ := id hI
  refine ⟨h', AR.room (show mc ≤ mc + 1 by omega) (show ms ≤ ms + 6 by omega) ?_⟩
  refine AR.run g_L_law_1767_1 1768 [some (.ref 0), some (.ref 4096), some (.ref 16384), some (.ref 20480), some (.int (nI (i))), none, none, none, none] [.ref 4096] _ [] rfl trivial ?_
  refine AR.callV1 (4096) [] [] lk_L_190 dc_L_law_1768 rfl rfl (hL) (by first | rfl | (simp only [nI_add, pk_mul]; first | done | rfl)) rfl ?_
  refine AR.run g_L_law_1771_2 1774 [some (.ref 0), some (.ref 4096), some (.ref 16384), some (.ref 20480), some (.int (nI (i))), some (.double (x)), none, none, none] [.ref 16384] _ [] rfl trivial ?_
  refine AR.callV1 (16384) [] [] lk_L_194 dc_L_law_1774 rfl rfl (hM) (by first | rfl | (simp only [nI_add, pk_mul]; first | done | rfl)) rfl ?_
  refine AR.run g_L_law_1777_4 1784 [some (.ref 0), some (.ref 4096), some (.ref 16384), some (.ref 20480), some (.int (nI (i))), some (.double (x)), none, some (.double (x)), none] [.int (Op.cmpValue (FP.dcmp x x) .l)] _ [] rfl trivial ?_
  refine AR.eq (tgt := 1805) dc_L_law_1784 (by decide) (fun c1784_1 => ?_) (fun c1784_1 => absurd c1784_1 (fun q9 => q9 (SHd_self hsh)))
  refine AR.run g_L_law_1805_1 1822 [some (.ref 0), some (.ref 4096), some (.ref 16384), some (.ref 20480), some (.int (nI (i))), some (.double (x)), none, some (.double (x)), none] [] _ [] rfl trivial ?_
  refine AR.drop (L' := [some (.ref 0), some (.ref 4096), some (.ref 16384), some (.ref 20480), some (.int (nI (i))), none, none, none, none]) ⟨rfl, rfl, rfl, rfl, rfl, trivial⟩ ?_
  exact hc
theorem g_L_law_1808_1 : ab_oks M_L_law [(1808, .aload_n 1, 1, 1, 0, 0, .null)] = true := by decide +kernel
theorem lk_L_195 : ab_lkV "LeafCradlesLaw" 195 M_X4_digest 0 [393, 394, 395, 91, 396] = true := by decide +kernel
theorem dc_L_law_1809 : decode (AM.bytes M_L_law) 1809 = .ok (.invokevirtual 195, 3) := by decide +kernel
theorem g_L_law_1812_1 : ab_oks M_L_law [(1812, .aload_n 2, 1, 2, 0, 0, .null)] = true := by decide +kernel
theorem lk_L_199 : ab_lkV "LeafCradlesLaw" 199 M_X5_digest 0 [1323, 1324, 1325, 97, 1326] = true := by decide +kernel
theorem dc_L_law_1813 : decode (AM.bytes M_L_law) 1813 = .ok (.invokevirtual 199, 3) := by decide +kernel
theorem g_L_law_1816_1 : ab_oks M_L_law [(1816, .lcmp, 1, 0, 0, 0, .null)] = true := by decide +kernel
theorem dc_L_law_1817 : decode (AM.bytes M_L_law) 1817 = .ok (.ifCond .eq 5, 3) := by decide +kernel
set_option maxRecDepth 100000 in
set_option maxHeartbeats 4000000 in
theorem la_28 {E : AE} {sx : Nat → Int32} {sl i mc ms : Nat} {T K : Nat → Nat → Int32} {os sc : Int32} {tc tp : Nat → Int32} {tl_ tn trd tv tdg tf tla : Int32} {pg ph pc : Nat → Int32} {pm : Int32} {z sa ro te fr to un ga pi be : Nat → Int32} {bm en sta sv ln th : Int32} {hh : Int64} {ov : Nat → Int64} (hi : i + 4 < sl) (hsl : sl < 100000) (hP : ∃ x : Int64, PD E M_X4_digest M_X5_digest (.long x) (ol_ sx sl lsS gsS) (ar T K os sc) (te_ tc tp tl_ tn trd tv tdg tf tla) (pl pg ph pc pm) (mo z sa ro te fr to un ga pi be bm en sta sv ln th hh) ov) (cont : ∀ (th : Int32) (ov : Nat → Int64) (h : AH), INV (ol_ sx sl lsS gsS) th ov h → ∃ h' : AH, AR E M_L_law 13 1822 [some (.ref 0), some (.ref 4096), some (.ref 16384), some (.ref 20480), some (.int (nI (i))), none, none, none, none] [] h (.inl (some (.int (nI 1)))) h' mc ms) : ∃ h' : AH, AR E M_L_law 13 1808 [some (.ref 0), some (.ref 4096), some (.ref 16384), some (.ref 20480), some (.int (nI (i))), none, none, none, none] [] (hp (ol_ sx sl lsS gsS) (ar T K os sc) (te_ tc tp tl_ tn trd tv tdg tf tla) (pl pg ph pc pm) (mo z sa ro te fr to un ga pi be bm en sta sv ln th hh) (ou ov) []) (.inl (some (.int (nI 1)))) h' (mc + 1) (ms + 6) := by
  obtain ⟨x, a1, t1, p1, h2, th1, hL, hM, hI⟩ := hP
  obtain ⟨h', hc⟩ := cont th1 ov _ hI
  obtain ⟨T1, K1, os1, sc1, tc1, tp1, tl_1, tn1, trd1, tv1, tdg1, tf1, tla1, pg1, ph1, pc1, pm1, z1, sa1, ro1, te1, fr1, to1, un1, ga1, pi1, be1, bm1, en1, sta1, sv1, ln1, hh1, nv1, nc1, nr1, ne1, a9, b9, q9, rfl, -⟩ := id hI
  refine ⟨h', AR.room (show mc ≤ mc + 1 by omega) (show ms ≤ ms + 6 by omega) ?_⟩
  refine AR.run g_L_law_1808_1 1809 [some (.ref 0), some (.ref 4096), some (.ref 16384), some (.ref 20480), some (.int (nI (i))), none, none, none, none] [.ref 4096] _ [] rfl trivial ?_
  refine AR.callV1 (4096) [] [] lk_L_195 dc_L_law_1809 rfl rfl (hL) (by first | rfl | (simp only [nI_add, pk_mul]; first | done | rfl)) rfl ?_
  refine AR.run g_L_law_1812_1 1813 [some (.ref 0), some (.ref 4096), some (.ref 16384), some (.ref 20480), some (.int (nI (i))), none, none, none, none] [.ref 16384, .long (x)] _ [] rfl trivial ?_
  refine AR.callV1 (16384) [] [.long (x)] lk_L_199 dc_L_law_1813 rfl rfl (hM) (by first | rfl | (simp only [nI_add, pk_mul]; first | done | rfl)) rfl ?_
  refine AR.run g_L_law_1816_1 1817 [some (.ref 0), some (.ref 4096), some (.ref 16384), some (.ref 20480), some (.int (nI (i))), none, none, none, none] [.int (lg_cmp x x)] _ [] rfl trivial ?_
  refine AR.eq (tgt := 1822) dc_L_law_1817 (by decide) (fun c1817_1 => ?_) (fun c1817_1 => absurd c1817_1 (fun q9 => q9 (lcmp_eq rfl)))
  exact hc
