section LOOP
theorem and31 (x : Int32) : ∃ w : Nat, w < 32 ∧ x &&& nI 31 = nI w := by
  refine ⟨(x.toBitVec &&& 31#32).toNat, ?_, ?_⟩
  · rw [BitVec.toNat_and]
    exact Nat.lt_of_le_of_lt Nat.and_le_right (by decide)
  · apply Int32.toBitVec_inj.mp
    rw [Int32.toBitVec_and]
    show x.toBitVec &&& 31#32 = BitVec.ofNat 32 (x.toBitVec &&& 31#32).toNat
    rw [BitVec.ofNat_toNat, BitVec.setWidth_eq]
theorem g_L_law_23_5 : ab_oks M_L_law [(23, .iload 4, 2, 4, 0, 0, .null), (25, .aload_n 0, 1, 0, 0, 0, .null), (26, .arraylength, 1, 0, 0, 0, .null), (27, .iconst 5, 1, 0, 0, 0, .int (nI (5))), (28, .isub, 1, 0, 0, 0, .null)] = true := by decide +kernel
theorem g_L_law_32_2 : ab_oks M_L_law [(32, .aload_n 0, 1, 0, 0, 0, .null), (33, .iload 4, 2, 4, 0, 0, .null)] = true := by decide +kernel
theorem g_L_law_36_2 : ab_oks M_L_law [(36, .bipush 31, 2, 0, 0, 0, .int (nI (31))), (38, .iand, 1, 0, 0, 0, .null)] = true := by decide +kernel
theorem g_L_law_1822_2 : ab_oks M_L_law [(1822, .iinc 4 5, 3, 4, 0, 0, .int (nI (5))), (1825, .goto (-1802), 3, 23, 0, 0, .null)] = true := by decide +kernel
theorem g_L_law_1828_1 : ab_oks M_L_law [(1828, .iconst 1, 1, 0, 0, 0, .int (nI (1)))] = true := by decide +kernel
theorem dc_L_law_29 : decode (AM.bytes M_L_law) 29 = .ok (.if_icmp .gt 1799, 3) := by decide +kernel
theorem dc_L_law_39 : decode (AM.bytes M_L_law) 39 = .ok (.tableswitch 1783 0 28 #[129, 221, 289, 333, 401, 457, 537, 605, 661, 729, 785, 798, 811, 867, 911, 979, 1059, 1127, 1195, 1263, 1331, 1387, 1443, 1523, 1591, 1604, 1660, 1728, 1769], 129) := by decide +kernel
theorem ok_L_law_35 : ab_ok M_L_law (35, .iaload, 1, 0, 0, 0, .null) = true := by decide +kernel
theorem dc_L_law_1829 : decode (AM.bytes M_L_law) 1829 = .ok (.ireturn, 1) := by decide +kernel
set_option maxRecDepth 100000 in
set_option maxHeartbeats 4000000 in
/-- a round of the law -/
theorem law_round {E : AE} {sx : Nat → Int32} {sl : Nat} (hex : E.ex = false) (hsl : sl < 100000) {i mc ms : Nat} (hi : i + 5 ≤ sl) {th : Int32} {ov : Nat → Int64} {h : AH} (hI : INV (ol_ sx sl lsS gsS) th ov h) (cont : ∀ (th : Int32) (ov : Nat → Int64) (h : AH), INV (ol_ sx sl lsS gsS) th ov h → ∃ h' : AH, AR E M_L_law 13 1822 [some (.ref 0), some (.ref 4096), some (.ref 16384), some (.ref 20480), some (.int (nI (i))), none, none, none, none] [] h (.inl (some (.int (nI 1)))) h' mc ms) : ∃ h' : AH, AR E M_L_law 13 23 [some (.ref 0), some (.ref 4096), some (.ref 16384), some (.ref 20480), some (.int (nI (i))), none, none, none, none] [] h (.inl (some (.int (nI 1)))) h' (mc + 1) (ms + 6) := by
  obtain ⟨T1, K1, os1, sc1, tc1, tp1, tl_1, tn1, trd1, tv1, tdg1, tf1, tla1, pg1, ph1, pc1, pm1, z1, sa1, ro1, te1, fr1, to1, un1, ga1, pi1, be1, bm1, en1, sta1, sv1, ln1, hh1, nv1, nc1, nr1, ne1, a9, b9, q9, rfl, hIV⟩ := id hI
  obtain ⟨w, hw, ew⟩ := and31 (sx i)
  have key : ∃ h' : AH, AR E M_L_law 13 39 [some (.ref 0), some (.ref 4096), some (.ref 16384), some (.ref 20480), some (.int (nI (i))), none, none, none, none] [.int (nI w)] (hp (ol_ sx sl lsS gsS) (ar T1 K1 os1 sc1) (te_ tc1 tp1 tl_1 tn1 trd1 tv1 tdg1 tf1 tla1) (pl pg1 ph1 pc1 pm1) (mo z1 sa1 ro1 te1 fr1 to1 un1 ga1 pi1 be1 bm1 en1 sta1 sv1 ln1 th hh1) (ou ov) []) (.inl (some (.int (nI 1)))) h' (mc + 1) (ms + 6) := by
    rcases (show w = 0 ∨ w = 1 ∨ w = 2 ∨ w = 3 ∨ w = 4 ∨ w = 5 ∨ w = 6 ∨ w = 7 ∨ w = 8 ∨ w = 9 ∨ w = 10 ∨ w = 11 ∨ w = 12 ∨ w = 13 ∨ w = 14 ∨ w = 15 ∨ w = 16 ∨ w = 17 ∨ w = 18 ∨ w = 19 ∨ w = 20 ∨ w = 21 ∨ w = 22 ∨ w = 23 ∨ w = 24 ∨ w = 25 ∨ w = 26 ∨ w = 27 ∨ w = 28 ∨ 29 ≤ w by omega) with rfl | rfl | rfl | rfl | rfl | rfl | rfl | rfl | rfl | rfl | rfl | rfl | rfl | rfl | rfl | rfl | rfl | rfl | rfl | rfl | rfl | rfl | rfl | rfl | rfl | rfl | rfl | rfl | rfl | hd
    · obtain ⟨h', k⟩ := la_0 (by omega) hsl (p_addVolume hex hIV _ _ _ _) cont
      exact ⟨h', AR.tswN (w := 0) (tgt := 168) 0 dc_L_law_39 rfl rfl (by decide) 0 (by decide) (by decide) rfl (by decide) k⟩
    · obtain ⟨h', k⟩ := la_1 (by omega) hsl (p_addCradle hex hIV _ _) cont
      exact ⟨h', AR.tswN (w := 1) (tgt := 260) 1 dc_L_law_39 rfl rfl (by decide) 1 (by decide) (by decide) rfl (by decide) k⟩
    · obtain ⟨h', k⟩ := la_2 (by omega) hsl (p_addCarrier hex hIV) cont
      exact ⟨h', AR.tswN (w := 2) (tgt := 328) 2 dc_L_law_39 rfl rfl (by decide) 2 (by decide) (by decide) rfl (by decide) k⟩
    · obtain ⟨h', k⟩ := la_3 (by omega) hsl (p_set hex hIV _ _) cont
      exact ⟨h', AR.tswN (w := 3) (tgt := 372) 3 dc_L_law_39 rfl rfl (by decide) 3 (by decide) (by decide) rfl (by decide) k⟩
    · obtain ⟨h', k⟩ := la_4 (by omega) hsl (p_setYear hex hIV _) cont
      exact ⟨h', AR.tswN (w := 4) (tgt := 440) 4 dc_L_law_39 rfl rfl (by decide) 4 (by decide) (by decide) rfl (by decide) k⟩
    · obtain ⟨h', k⟩ := la_5 (by omega) hsl (p_bring hex hIV _ _ _) cont
      exact ⟨h', AR.tswN (w := 5) (tgt := 496) 5 dc_L_law_39 rfl rfl (by decide) 5 (by decide) (by decide) rfl (by decide) k⟩
    · obtain ⟨h', k⟩ := la_6 (by omega) hsl (p_takeBack hex hIV _ _) cont
      exact ⟨h', AR.tswN (w := 6) (tgt := 576) 6 dc_L_law_39 rfl rfl (by decide) 6 (by decide) (by decide) rfl (by decide) k⟩
    · obtain ⟨h', k⟩ := la_7 (by omega) hsl (p_pass hex hIV _) cont
      exact ⟨h', AR.tswN (w := 7) (tgt := 644) 7 dc_L_law_39 rfl rfl (by decide) 7 (by decide) (by decide) rfl (by decide) k⟩
    · obtain ⟨h', k⟩ := la_8 (by omega) hsl (p_reject hex hIV _ _) cont
      exact ⟨h', AR.tswN (w := 8) (tgt := 700) 8 dc_L_law_39 rfl rfl (by decide) 8 (by decide) (by decide) rfl (by decide) k⟩
    · obtain ⟨h', k⟩ := la_9 (by omega) hsl (p_append hex hIV _) cont
      exact ⟨h', AR.tswN (w := 9) (tgt := 768) 9 dc_L_law_39 rfl rfl (by decide) 9 (by decide) (by decide) rfl (by decide) k⟩
    · obtain ⟨h', k⟩ := la_10 (by omega) hsl (p_clearBuffer hIV) cont
      exact ⟨h', AR.tswN (w := 10) (tgt := 824) 10 dc_L_law_39 rfl rfl (by decide) 10 (by decide) (by decide) rfl (by decide) k⟩
    · obtain ⟨h', k⟩ := la_11 (by omega) hsl (p_firstError hIV) cont
      exact ⟨h', AR.tswN (w := 11) (tgt := 837) 11 dc_L_law_39 rfl rfl (by decide) 11 (by decide) (by decide) rfl (by decide) k⟩
    · obtain ⟨h', k⟩ := la_12 (by omega) hsl (p_bar hex hIV _) cont
      exact ⟨h', AR.tswN (w := 12) (tgt := 850) 12 dc_L_law_39 rfl rfl (by decide) 12 (by decide) (by decide) rfl (by decide) k⟩
    · obtain ⟨h', k⟩ := la_13 (by omega) hsl (p_undo hex hIV) cont
      exact ⟨h', AR.tswN (w := 13) (tgt := 906) 13 dc_L_law_39 rfl rfl (by decide) 13 (by decide) (by decide) rfl (by decide) k⟩
    · obtain ⟨h', k⟩ := la_14 (by omega) hsl (p_volume hex hIV _ _) cont
      exact ⟨h', AR.tswN (w := 14) (tgt := 950) 14 dc_L_law_39 rfl rfl (by decide) 14 (by decide) (by decide) rfl (by decide) k⟩
    · obtain ⟨h', k⟩ := la_15 (by omega) hsl (p_leaf hex hIV _ _ _) cont
      exact ⟨h', AR.tswN (w := 15) (tgt := 1018) 15 dc_L_law_39 rfl rfl (by decide) 15 (by decide) (by decide) rfl (by decide) k⟩
    · obtain ⟨h', k⟩ := la_16 (by omega) hsl (p_cradle hex hIV _ _) cont
      exact ⟨h', AR.tswN (w := 16) (tgt := 1098) 16 dc_L_law_39 rfl rfl (by decide) 16 (by decide) (by decide) rfl (by decide) k⟩
    · obtain ⟨h', k⟩ := la_17 (by omega) hsl (p_carrier hex hIV _ _) cont
      exact ⟨h', AR.tswN (w := 17) (tgt := 1166) 17 dc_L_law_39 rfl rfl (by decide) 17 (by decide) (by decide) rfl (by decide) k⟩
    · obtain ⟨h', k⟩ := la_18 (by omega) hsl (p_log hex hIV _ _) cont
      exact ⟨h', AR.tswN (w := 18) (tgt := 1234) 18 dc_L_law_39 rfl rfl (by decide) 18 (by decide) (by decide) rfl (by decide) k⟩
    · obtain ⟨h', k⟩ := la_19 (by omega) hsl (p_whereAt hex hIV _ _) cont
      exact ⟨h', AR.tswN (w := 19) (tgt := 1302) 19 dc_L_law_39 rfl rfl (by decide) 19 (by decide) (by decide) rfl (by decide) k⟩
    · obtain ⟨h', k⟩ := la_20 (by omega) hsl (p_count hex hIV _) cont
      exact ⟨h', AR.tswN (w := 20) (tgt := 1370) 20 dc_L_law_39 rfl rfl (by decide) 20 (by decide) (by decide) rfl (by decide) k⟩
    · obtain ⟨h', k⟩ := la_21 (by omega) hsl (p_setting hex hIV _) cont
      exact ⟨h', AR.tswN (w := 21) (tgt := 1426) 21 dc_L_law_39 rfl rfl (by decide) 21 (by decide) (by decide) rfl (by decide) k⟩
    · obtain ⟨h', k⟩ := la_22 (by omega) hsl (p_whyNot hex hIV _ _ _) cont
      exact ⟨h', AR.tswN (w := 22) (tgt := 1482) 22 dc_L_law_39 rfl rfl (by decide) 22 (by decide) (by decide) rfl (by decide) k⟩
    · obtain ⟨h', k⟩ := la_23 (by omega) hsl (p_ifPassed hex hIV _ _) cont
      exact ⟨h', AR.tswN (w := 23) (tgt := 1562) 23 dc_L_law_39 rfl rfl (by decide) 23 (by decide) (by decide) rfl (by decide) k⟩
    · obtain ⟨h', k⟩ := la_24 (by omega) hsl (p_doneIn hIV) cont
      exact ⟨h', AR.tswN (w := 24) (tgt := 1630) 24 dc_L_law_39 rfl rfl (by decide) 24 (by decide) (by decide) rfl (by decide) k⟩
    · obtain ⟨h', k⟩ := la_25 (by omega) hsl (p_quickest hex hIV _) cont
      exact ⟨h', AR.tswN (w := 25) (tgt := 1643) 25 dc_L_law_39 rfl rfl (by decide) 25 (by decide) (by decide) rfl (by decide) k⟩
    · obtain ⟨h', k⟩ := la_26 (by omega) hsl (p_bestLoad hex hIV _ _) cont
      exact ⟨h', AR.tswN (w := 26) (tgt := 1699) 26 dc_L_law_39 rfl rfl (by decide) 26 (by decide) (by decide) rfl (by decide) k⟩
    · obtain ⟨h', k⟩ := la_27 (by omega) hsl (p_openShare hIV) cont
      exact ⟨h', AR.tswN (w := 27) (tgt := 1767) 27 dc_L_law_39 rfl rfl (by decide) 27 (by decide) (by decide) rfl (by decide) k⟩
    · obtain ⟨h', k⟩ := la_28 (by omega) hsl (p_digest hIV) cont
      exact ⟨h', AR.tswN (w := 28) (tgt := 1808) 28 dc_L_law_39 rfl rfl (by decide) 28 (by decide) (by decide) rfl (by decide) k⟩
    · obtain ⟨h', k⟩ := cont th ov _ hI
      exact ⟨h', AR.room (by omega) (by omega) (AR.tswdN (w := w) (tgt := 1822) dc_L_law_39 rfl (by omega) (Or.inr (by omega)) (by decide) k)⟩
  obtain ⟨h', k⟩ := key
  refine ⟨h', ?_⟩
  refine AR.run g_L_law_23_5 29 [some (.ref 0), some (.ref 4096), some (.ref 16384), some (.ref 20480), some (.int (nI (i))), none, none, none, none] [.int ((nI (sl)) - (nI (5))), .int (nI (i))] _ [] rfl trivial ?_
  refine AR.top (y := nI (sl - 5)) (pk_sub (by omega)) ?_
  refine AR.gt2N (tgt := 1828) (a := i) (b := sl - 5) dc_L_law_29 (by decide) rfl rfl (by omega) (by omega) (fun c => absurd c (by omega)) (fun _ => ?_)
  refine AR.run g_L_law_32_2 35 [some (.ref 0), some (.ref 4096), some (.ref 16384), some (.ref 20480), some (.int (nI (i))), none, none, none, none] [.int (nI (i)), .ref 0] _ [] rfl trivial ?_
  refine AR.ald (n := 0) (e := i) ok_L_law_35 rfl rfl (by omega) (by omega) ?_
  refine AR.run g_L_law_36_2 39 [some (.ref 0), some (.ref 4096), some (.ref 16384), some (.ref 20480), some (.int (nI (i))), none, none, none, none] [.int ((sx i) &&& (nI (31)))] _ [] rfl trivial ?_
  exact AR.top ew k
set_option maxRecDepth 100000 in
theorem law_end {E : AE} {sx : Nat → Int32} {sl : Nat} (hsl : sl < 100000) {i : Nat} (hi : ¬ i + 5 ≤ sl) (hi9 : i < 100000) {th : Int32} {ov : Nat → Int64} {h : AH} (hI : INV (ol_ sx sl lsS gsS) th ov h) : AR E M_L_law 13 23 [some (.ref 0), some (.ref 4096), some (.ref 16384), some (.ref 20480), some (.int (nI (i))), none, none, none, none] [] h (.inl (some (.int (nI 1)))) h 0 0 := by
  obtain ⟨T1, K1, os1, sc1, tc1, tp1, tl_1, tn1, trd1, tv1, tdg1, tf1, tla1, pg1, ph1, pc1, pm1, z1, sa1, ro1, te1, fr1, to1, un1, ga1, pi1, be1, bm1, en1, sta1, sv1, ln1, hh1, nv1, nc1, nr1, ne1, a9, b9, q9, rfl, hIV⟩ := id hI
  refine AR.run g_L_law_23_5 29 [some (.ref 0), some (.ref 4096), some (.ref 16384), some (.ref 20480), some (.int (nI (i))), none, none, none, none] [.int ((nI (sl)) - (nI (5))), .int (nI (i))] _ [] rfl trivial ?_
  have hend : AR E M_L_law 13 1828 [some (.ref 0), some (.ref 4096), some (.ref 16384), some (.ref 20480), some (.int (nI (i))), none, none, none, none] [] (hp (ol_ sx sl lsS gsS) (ar T1 K1 os1 sc1) (te_ tc1 tp1 tl_1 tn1 trd1 tv1 tdg1 tf1 tla1) (pl pg1 ph1 pc1 pm1) (mo z1 sa1 ro1 te1 fr1 to1 un1 ga1 pi1 be1 bm1 en1 sta1 sv1 ln1 th hh1) (ou ov) []) (.inl (some (.int (nI 1)))) (hp (ol_ sx sl lsS gsS) (ar T1 K1 os1 sc1) (te_ tc1 tp1 tl_1 tn1 trd1 tv1 tdg1 tf1 tla1) (pl pg1 ph1 pc1 pm1) (mo z1 sa1 ro1 te1 fr1 to1 un1 ga1 pi1 be1 bm1 en1 sta1 sv1 ln1 th hh1) (ou ov) []) 0 0 := by
    refine AR.run g_L_law_1828_1 1829 [some (.ref 0), some (.ref 4096), some (.ref 16384), some (.ref 20480), some (.int (nI (i))), none, none, none, none] [.int (nI (1))] _ [] rfl trivial ?_
    exact AR.retZ dc_L_law_1829 rfl (Or.inr rfl) rfl rfl
  by_cases h5 : 5 ≤ sl
  · refine AR.top (y := nI (sl - 5)) (pk_sub (by omega)) ?_
    exact AR.gt2N (tgt := 1828) (a := i) (b := sl - 5) dc_L_law_29 (by decide) rfl rfl (by omega) (by omega) (fun _ => hend) (fun c => absurd c (by omega))
  · have hneg : nI sl - nI 5 < nI i := by
      have h0 : nI sl - nI 5 < 0 := by
        rcases (show sl = 0 ∨ sl = 1 ∨ sl = 2 ∨ sl = 3 ∨ sl = 4 by omega) with rfl | rfl | rfl | rfl | rfl <;> decide
      exact Int32.lt_of_lt_of_le h0 (nI_pos' (by omega))
    exact AR.gt2 (tgt := 1828) dc_L_law_29 (by decide) (fun _ => hend) (fun c => absurd hneg c)
set_option maxRecDepth 100000 in
/-- the law's loop comes to its end with true -/
theorem law_loop {E : AE} {sx : Nat → Int32} {sl : Nat} (hex : E.ex = false) (hsl : sl < 10000) : ∀ (n i : Nat) (th : Int32) (ov : Nat → Int64) (h : AH), sl < i + 5 * n + 5 → i < 20000 → INV (ol_ sx sl lsS gsS) th ov h → ∃ h' : AH, AR E M_L_law 13 23 [some (.ref 0), some (.ref 4096), some (.ref 16384), some (.ref 20480), some (.int (nI (i))), none, none, none, none] [] h (.inl (some (.int (nI 1)))) h' n (6 * n) := by
  intro n
  induction n with
  | zero =>
    intro i th ov h h1 h2 hI
    exact ⟨h, law_end (by omega) (by omega) (by omega) hI⟩
  | succ n ih =>
    intro i th ov h h1 h2 hI
    by_cases hi : i + 5 ≤ sl
    · refine law_round (mc := n) (ms := 6 * n) hex (by omega) hi hI ?_
      intro th1 ov1 h9 hI9
      obtain ⟨h', k⟩ := ih (i + 5) th1 ov1 h9 (by omega) (by omega) hI9
      refine ⟨h', ?_⟩
      obtain ⟨T1, K1, os1, sc1, tc1, tp1, tl_1, tn1, trd1, tv1, tdg1, tf1, tla1, pg1, ph1, pc1, pm1, z1, sa1, ro1, te1, fr1, to1, un1, ga1, pi1, be1, bm1, en1, sta1, sv1, ln1, hh1, nv1, nc1, nr1, ne1, a9, b9, q9, rfl, hIV⟩ := id hI9
      refine AR.run g_L_law_1822_2 23 [some (.ref 0), some (.ref 4096), some (.ref 16384), some (.ref 20480), some (.int ((nI (i)) + (nI (5)))), none, none, none, none] [] _ [] rfl trivial ?_
      exact AR.cast (L' := [some (.ref 0), some (.ref 4096), some (.ref 16384), some (.ref 20480), some (.int (nI ((i + 5)))), none, none, none, none]) (by rw [nI_add]) rfl rfl k
    · exact ⟨h, AR.room (by omega) (by omega) (law_end (by omega) hi (by omega) hI)⟩
end LOOP
