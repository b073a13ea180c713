theorem F_5goesOn_N {b nx sta : Int32} (h1 : isN nx) (h2 : isN sta) (h3 : nx.toNatClampNeg ≤ 10) (h4 : sta.toNatClampNeg ≤ 10) : isN (F_5goesOn_sta b nx sta) ∧ (F_5goesOn_sta b nx sta).toNatClampNeg ≤ 10 := by
  unfold F_5goesOn_sta
  split
  · exact ⟨h2, h4⟩
  · exact ⟨h1, h3⟩
def F_5takes (c : Int32) (fr : Nat → Int32) (to : Nat → Int32) (un : Nat → Int32) (en : Int32) (sta : Int32) : Int32 := if 3 ≤ (sta.toNatClampNeg) then if 6 ≤ (sta.toNatClampNeg) then if 10 ≤ (sta.toNatClampNeg) then if c = (nI (44)) then (nI (1)) else (nI (0)) else (F_5takesYear c un en sta) else (F_5takesSecond c fr to en sta) else (F_5takesFirst c fr en sta)
theorem F_5takes_01 (c : Int32) (fr : Nat → Int32) (to : Nat → Int32) (un : Nat → Int32) (en : Int32) (sta : Int32) : F_5takes c fr to un en sta = nI 0 ∨ F_5takes c fr to un en sta = nI 1 := by
  unfold F_5takes
  (repeat' split) <;> first | exact Or.inl rfl | exact Or.inr rfl | exact wi01 _ _ _ | apply F_5takesFirst_01 | apply F_5takesSecond_01 | apply F_5takesYear_01
def F_5takes_fr (c : Int32) (fr : Nat → Int32) (en : Int32) (sta : Int32) : Nat → Int32 := if 3 ≤ (sta.toNatClampNeg) then if 6 ≤ (sta.toNatClampNeg) then if 10 ≤ (sta.toNatClampNeg) then if c = (nI (44)) then fr else fr else fr else fr else (F_5takesFirst_fr c fr en sta)
def F_5takes_to (c : Int32) (fr : Nat → Int32) (to : Nat → Int32) (en : Int32) (sta : Int32) : Nat → Int32 := if 3 ≤ (sta.toNatClampNeg) then if 6 ≤ (sta.toNatClampNeg) then if 10 ≤ (sta.toNatClampNeg) then if c = (nI (44)) then to else to else to else (F_5takesSecond_to c fr to en sta) else (F_5takesFirst_to c fr to en sta)
def F_5takes_un (c : Int32) (un : Nat → Int32) (en : Int32) (sta : Int32) : Nat → Int32 := if 3 ≤ (sta.toNatClampNeg) then if 6 ≤ (sta.toNatClampNeg) then if 10 ≤ (sta.toNatClampNeg) then if c = (nI (44)) then un else un else (F_5takesYear_un c un en sta) else un else un
def F_5takes_en (c : Int32) (en : Int32) (sta : Int32) : Int32 := if 3 ≤ (sta.toNatClampNeg) then if 6 ≤ (sta.toNatClampNeg) then if 10 ≤ (sta.toNatClampNeg) then if c = (nI (44)) then ((nI ((en.toNatClampNeg))) + (nI (1))) else ((nI ((en.toNatClampNeg))) + (nI (0))) else en else en else en
def F_5takes_sta (c : Int32) (fr : Nat → Int32) (to : Nat → Int32) (un : Nat → Int32) (en : Int32) (sta : Int32) : Int32 := if 3 ≤ (sta.toNatClampNeg) then if 6 ≤ (sta.toNatClampNeg) then if 10 ≤ (sta.toNatClampNeg) then if c = (nI (44)) then (F_5goesOn_sta (nI (1)) (nI (0)) sta) else (F_5goesOn_sta (nI (0)) (nI (0)) sta) else (F_5takesYear_sta c un en sta) else (F_5takesSecond_sta c fr to en sta) else (F_5takesFirst_sta c fr en sta)
theorem g_X5_takes_0_2 : ab_oks M_X5_takes [(0, .aload_n 0, 1, 0, 0, 0, .null), (1, .getfield 121, 3, 5, 12, 948, .null)] = true := by decide +kernel
theorem g_X5_takes_4_1 : ab_oks M_X5_takes [(4, .iconst 3, 1, 0, 0, 0, .int (nI (3)))] = true := by decide +kernel
theorem dc_X5_takes_5 : decode (AM.bytes M_X5_takes) 5 = .ok (.if_icmp .ge 9, 3) := by decide +kernel
theorem g_X5_takes_14_2 : ab_oks M_X5_takes [(14, .aload_n 0, 1, 0, 0, 0, .null), (15, .getfield 121, 3, 5, 12, 948, .null)] = true := by decide +kernel
theorem g_X5_takes_18_1 : ab_oks M_X5_takes [(18, .bipush 6, 2, 0, 0, 0, .int (nI (6)))] = true := by decide +kernel
theorem dc_X5_takes_20 : decode (AM.bytes M_X5_takes) 20 = .ok (.if_icmp .ge 9, 3) := by decide +kernel
theorem g_X5_takes_29_2 : ab_oks M_X5_takes [(29, .aload_n 0, 1, 0, 0, 0, .null), (30, .getfield 121, 3, 5, 12, 948, .null)] = true := by decide +kernel
theorem g_X5_takes_33_1 : ab_oks M_X5_takes [(33, .bipush 10, 2, 0, 0, 0, .int (nI (10)))] = true := by decide +kernel
theorem dc_X5_takes_35 : decode (AM.bytes M_X5_takes) 35 = .ok (.if_icmp .ge 9, 3) := by decide +kernel
theorem g_X5_takes_44_2 : ab_oks M_X5_takes [(44, .iload_n 1, 1, 1, 0, 0, .null), (45, .bipush 44, 2, 0, 0, 0, .int (nI (44)))] = true := by decide +kernel
theorem dc_X5_takes_47 : decode (AM.bytes M_X5_takes) 47 = .ok (.if_icmp .ne 7, 3) := by decide +kernel
theorem g_X5_takes_54_5 : ab_oks M_X5_takes [(54, .iconst 0, 1, 0, 0, 0, .int (nI (0))), (55, .istore_n 2, 1, 2, 0, 0, .null), (56, .aload_n 0, 1, 0, 0, 0, .null), (57, .dup, 1, 0, 0, 0, .null), (58, .getfield 124, 3, 5, 11, 947, .null)] = true := by decide +kernel
theorem g_X5_takes_61_1 : ab_oks M_X5_takes [(61, .iload_n 2, 1, 2, 0, 0, .null)] = true := by decide +kernel
theorem dc_X5_takes_62 : decode (AM.bytes M_X5_takes) 62 = .ok (.ifCond .eq 7, 3) := by decide +kernel
theorem g_X5_takes_69_6 : ab_oks M_X5_takes [(69, .iconst 0, 1, 0, 0, 0, .int (nI (0))), (70, .iadd, 1, 0, 0, 0, .null), (71, .putfield 124, 3, 5, 11, 947, .null), (74, .aload_n 0, 1, 0, 0, 0, .null), (75, .iload_n 2, 1, 2, 0, 0, .null), (76, .iconst 0, 1, 0, 0, 0, .int (nI (0)))] = true := by decide +kernel
theorem dc_X5_takes_77 : decode (AM.bytes M_X5_takes) 77 = .ok (.invokevirtual 127, 3) := by decide +kernel
theorem dc_X5_takes_80 : decode (AM.bytes M_X5_takes) 80 = .ok (.ireturn, 1) := by decide +kernel
theorem g_X5_takes_50_6 : ab_oks M_X5_takes [(50, .iconst 1, 1, 0, 0, 0, .int (nI (1))), (51, .goto 4, 3, 55, 0, 0, .null), (55, .istore_n 2, 1, 2, 0, 0, .null), (56, .aload_n 0, 1, 0, 0, 0, .null), (57, .dup, 1, 0, 0, 0, .null), (58, .getfield 124, 3, 5, 11, 947, .null)] = true := by decide +kernel
theorem g_X5_takes_65_7 : ab_oks M_X5_takes [(65, .iconst 1, 1, 0, 0, 0, .int (nI (1))), (66, .goto 4, 3, 70, 0, 0, .null), (70, .iadd, 1, 0, 0, 0, .null), (71, .putfield 124, 3, 5, 11, 947, .null), (74, .aload_n 0, 1, 0, 0, 0, .null), (75, .iload_n 2, 1, 2, 0, 0, .null), (76, .iconst 0, 1, 0, 0, 0, .int (nI (0)))] = true := by decide +kernel
theorem g_X5_takes_38_2 : ab_oks M_X5_takes [(38, .aload_n 0, 1, 0, 0, 0, .null), (39, .iload_n 1, 1, 1, 0, 0, .null)] = true := by decide +kernel
theorem lk_5_137 : ab_lkV "LeafCradlesModel" 137 M_X5_takesYear 1 [1143, 1145, 58, 97, 1146] = true := by decide +kernel
theorem dc_X5_takes_40 : decode (AM.bytes M_X5_takes) 40 = .ok (.invokevirtual 137, 3) := by decide +kernel
theorem dc_X5_takes_43 : decode (AM.bytes M_X5_takes) 43 = .ok (.ireturn, 1) := by decide +kernel
theorem g_X5_takes_23_2 : ab_oks M_X5_takes [(23, .aload_n 0, 1, 0, 0, 0, .null), (24, .iload_n 1, 1, 1, 0, 0, .null)] = true := by decide +kernel
theorem lk_5_134 : ab_lkV "LeafCradlesModel" 134 M_X5_takesSecond 1 [1139, 1141, 57, 97, 1142] = true := by decide +kernel
theorem dc_X5_takes_25 : decode (AM.bytes M_X5_takes) 25 = .ok (.invokevirtual 134, 3) := by decide +kernel
theorem dc_X5_takes_28 : decode (AM.bytes M_X5_takes) 28 = .ok (.ireturn, 1) := by decide +kernel
theorem g_X5_takes_8_2 : ab_oks M_X5_takes [(8, .aload_n 0, 1, 0, 0, 0, .null), (9, .iload_n 1, 1, 1, 0, 0, .null)] = true := by decide +kernel
theorem lk_5_131 : ab_lkV "LeafCradlesModel" 131 M_X5_takesFirst 1 [1131, 1133, 55, 97, 1134] = true := by decide +kernel
theorem dc_X5_takes_10 : decode (AM.bytes M_X5_takes) 10 = .ok (.invokevirtual 131, 3) := by decide +kernel
theorem dc_X5_takes_13 : decode (AM.bytes M_X5_takes) 13 = .ok (.ireturn, 1) := by decide +kernel
set_option maxRecDepth 100000 in
set_option maxHeartbeats 4000000 in
theorem s_5takes {E : AE} (d : Nat) (c : Int32)  {o0 a0 t0 p0 u0 l0 : List AC} {z sa ro te fr to un ga pi be : Nat → Int32} {bm en sta sv ln th : Int32} {hh : Int64} (hst : isN sta) (hen : isN en) (hen16 : en.toNatClampNeg < 16) (hst10 : sta.toNatClampNeg ≤ 10) : CT E M_X5_takes (d + 2) [.ref 16384, .int (c)] (hp o0 a0 t0 p0 (mo z sa ro te fr to un ga pi be bm en sta sv ln th hh) u0 l0) (.inl (some (.int (F_5takes c fr to un en sta)))) (hp o0 a0 t0 p0 (mo z sa ro te (F_5takes_fr c fr en sta) (F_5takes_to c fr to en sta) (F_5takes_un c un en sta) ga pi be bm (F_5takes_en c en sta) (F_5takes_sta c fr to un en sta) sv ln th hh) u0 l0) 0 0 := by
  refine CT.of (L := [some (.ref 16384), some (.int (c)), none]) rfl rfl ?_
  refine AR.run g_X5_takes_0_2 4 [some (.ref 16384), some (.int (c)), none] [.int (sta)] _ [] rfl trivial ?_
  refine AR.top hst ?_
  refine AR.run g_X5_takes_4_1 5 [some (.ref 16384), some (.int (c)), none] [.int (nI (3)), .int (nI ((sta.toNatClampNeg)))] _ [] rfl trivial ?_
  refine AR.ge2N (tgt := 14) (a := (sta.toNatClampNeg)) (b := 3) dc_X5_takes_5 (by decide) (by first | rfl | (simp only [nI_add, pk_mul]; first | done | rfl)) (by first | rfl | (simp only [nI_add, pk_mul]; first | done | rfl)) (by omega) (by omega) (fun c5_1 => ?_) (fun c5_1 => ?_)
  · refine AR.run g_X5_takes_14_2 18 [some (.ref 16384), some (.int (c)), none] [.int (sta)] _ [] rfl trivial ?_
    refine AR.top hst ?_
    refine AR.run g_X5_takes_18_1 20 [some (.ref 16384), some (.int (c)), none] [.int (nI (6)), .int (nI ((sta.toNatClampNeg)))] _ [] rfl trivial ?_
    refine AR.ge2N (tgt := 29) (a := (sta.toNatClampNeg)) (b := 6) dc_X5_takes_20 (by decide) (by first | rfl | (simp only [nI_add, pk_mul]; first | done | rfl)) (by first | rfl | (simp only [nI_add, pk_mul]; first | done | rfl)) (by omega) (by omega) (fun c20_2 => ?_) (fun c20_2 => ?_)
    · refine AR.run g_X5_takes_29_2 33 [some (.ref 16384), some (.int (c)), none] [.int (sta)] _ [] rfl trivial ?_
      refine AR.top hst ?_
      refine AR.run g_X5_takes_33_1 35 [some (.ref 16384), some (.int (c)), none] [.int (nI (10)), .int (nI ((sta.toNatClampNeg)))] _ [] rfl trivial ?_
      refine AR.ge2N (tgt := 44) (a := (sta.toNatClampNeg)) (b := 10) dc_X5_takes_35 (by decide) (by first | rfl | (simp only [nI_add, pk_mul]; first | done | rfl)) (by first | rfl | (simp only [nI_add, pk_mul]; first | done | rfl)) (by omega) (by omega) (fun c35_3 => ?_) (fun c35_3 => ?_)
      · refine AR.run g_X5_takes_44_2 47 [some (.ref 16384), some (.int (c)), none] [.int (nI (44)), .int (c)] _ [] rfl trivial ?_
        refine AR.ne2 (tgt := 54) dc_X5_takes_47 (by decide) (fun c47_4 => ?_) (fun c47_4 => ?_)
        · refine AR.run g_X5_takes_54_5 61 [some (.ref 16384), some (.int (c)), some (.int (nI (0)))] [.int (en), .ref 16384] _ [] rfl trivial ?_
          refine AR.top hen ?_
          refine AR.run g_X5_takes_61_1 62 [some (.ref 16384), some (.int (c)), some (.int (nI (0)))] [.int (nI (0)), .int (nI ((en.toNatClampNeg))), .ref 16384] _ [] rfl trivial ?_
          refine AR.eqN (tgt := 69) (a := 0) dc_X5_takes_62 (by decide) (by first | rfl | (simp only [nI_add, pk_mul]; first | done | rfl)) (by omega) (fun c62_5 => ?_) (fun c62_5 => absurd c62_5 (by omega))
          refine AR.run g_X5_takes_69_6 77 [some (.ref 16384), some (.int (c)), some (.int (nI (0)))] [.int (nI (0)), .int (nI (0)), .ref 16384] (hp o0 a0 t0 p0 (mo z sa ro te fr to un ga pi be bm ((nI ((en.toNatClampNeg))) + (nI (0))) sta sv ln th hh) u0 l0) [] rfl trivial ?_
          refine AR.callV1 (16384) [.int (nI (0)), .int (nI (0))] [] lk_5_127 dc_X5_takes_77 rfl rfl (s_5goesOn _ (nI (0)) (nI (0)) (by first | exact Or.inl rfl | exact Or.inr rfl | exact wi01 _ _ _ | assumption)) (by first | rfl | (simp only [nI_add, pk_mul]; first | done | rfl)) rfl ?_
          have e6_0 : F_5takes c fr to un en sta = (nI (0)) := by rw [F_5takes, if_pos (show 3 ≤ (sta.toNatClampNeg) from by omega), if_pos (show 6 ≤ (sta.toNatClampNeg) from by omega), if_pos (show 10 ≤ (sta.toNatClampNeg) from by omega), if_neg c47_4]
          have e6_1 : F_5takes_fr c fr en sta = fr := by rw [F_5takes_fr, if_pos (show 3 ≤ (sta.toNatClampNeg) from by omega), if_pos (show 6 ≤ (sta.toNatClampNeg) from by omega), if_pos (show 10 ≤ (sta.toNatClampNeg) from by omega), if_neg c47_4]
          have e6_2 : F_5takes_to c fr to en sta = to := by rw [F_5takes_to, if_pos (show 3 ≤ (sta.toNatClampNeg) from by omega), if_pos (show 6 ≤ (sta.toNatClampNeg) from by omega), if_pos (show 10 ≤ (sta.toNatClampNeg) from by omega), if_neg c47_4]
          have e6_3 : F_5takes_un c un en sta = un := by rw [F_5takes_un, if_pos (show 3 ≤ (sta.toNatClampNeg) from by omega), if_pos (show 6 ≤ (sta.toNatClampNeg) from by omega), if_pos (show 10 ≤ (sta.toNatClampNeg) from by omega), if_neg c47_4]
          have e6_4 : F_5takes_en c en sta = ((nI ((en.toNatClampNeg))) + (nI (0))) := by rw [F_5takes_en, if_pos (show 3 ≤ (sta.toNatClampNeg) from by omega), if_pos (show 6 ≤ (sta.toNatClampNeg) from by omega), if_pos (show 10 ≤ (sta.toNatClampNeg) from by omega), if_neg c47_4]
          have e6_5 : F_5takes_sta c fr to un en sta = (F_5goesOn_sta (nI (0)) (nI (0)) sta) := by rw [F_5takes_sta, if_pos (show 3 ≤ (sta.toNatClampNeg) from by omega), if_pos (show 6 ≤ (sta.toNatClampNeg) from by omega), if_pos (show 10 ≤ (sta.toNatClampNeg) from by omega), if_neg c47_4]
          exact AR.retZ dc_X5_takes_80 rfl (by first | exact Or.inl rfl | exact Or.inr rfl | exact wi01 _ _ _ | apply F_5isOpen_01 | apply F_5mayHave_01 | apply F_5scans_01 | apply F_5takes_01 | apply F_5takesFirst_01 | apply F_5takesSecond_01 | apply F_5takesYear_01) e6_0.symm (by rw [e6_1, e6_2, e6_3, e6_4, e6_5])
        · refine AR.run g_X5_takes_50_6 61 [some (.ref 16384), some (.int (c)), some (.int (nI (1)))] [.int (en), .ref 16384] _ [] rfl trivial ?_
          refine AR.top hen ?_
          refine AR.run g_X5_takes_61_1 62 [some (.ref 16384), some (.int (c)), some (.int (nI (1)))] [.int (nI (1)), .int (nI ((en.toNatClampNeg))), .ref 16384] _ [] rfl trivial ?_
          refine AR.eqN (tgt := 69) (a := 1) dc_X5_takes_62 (by decide) (by first | rfl | (simp only [nI_add, pk_mul]; first | done | rfl)) (by omega) (fun c62_7 => absurd c62_7 (by omega)) (fun c62_7 => ?_)
          refine AR.run g_X5_takes_65_7 77 [some (.ref 16384), some (.int (c)), some (.int (nI (1)))] [.int (nI (0)), .int (nI (1)), .ref 16384] (hp o0 a0 t0 p0 (mo z sa ro te fr to un ga pi be bm ((nI ((en.toNatClampNeg))) + (nI (1))) sta sv ln th hh) u0 l0) [] rfl trivial ?_
          refine AR.callV1 (16384) [.int (nI (1)), .int (nI (0))] [] lk_5_127 dc_X5_takes_77 rfl rfl (s_5goesOn _ (nI (1)) (nI (0)) (by first | exact Or.inl rfl | exact Or.inr rfl | exact wi01 _ _ _ | assumption)) (by first | rfl | (simp only [nI_add, pk_mul]; first | done | rfl)) rfl ?_
          have e8_0 : F_5takes c fr to un en sta = (nI (1)) := by rw [F_5takes, if_pos (show 3 ≤ (sta.toNatClampNeg) from by omega), if_pos (show 6 ≤ (sta.toNatClampNeg) from by omega), if_pos (show 10 ≤ (sta.toNatClampNeg) from by omega), if_pos c47_4]
          have e8_1 : F_5takes_fr c fr en sta = fr := by rw [F_5takes_fr, if_pos (show 3 ≤ (sta.toNatClampNeg) from by omega), if_pos (show 6 ≤ (sta.toNatClampNeg) from by omega), if_pos (show 10 ≤ (sta.toNatClampNeg) from by omega), if_pos c47_4]
          have e8_2 : F_5takes_to c fr to en sta = to := by rw [F_5takes_to, if_pos (show 3 ≤ (sta.toNatClampNeg) from by omega), if_pos (show 6 ≤ (sta.toNatClampNeg) from by omega), if_pos (show 10 ≤ (sta.toNatClampNeg) from by omega), if_pos c47_4]
          have e8_3 : F_5takes_un c un en sta = un := by rw [F_5takes_un, if_pos (show 3 ≤ (sta.toNatClampNeg) from by omega), if_pos (show 6 ≤ (sta.toNatClampNeg) from by omega), if_pos (show 10 ≤ (sta.toNatClampNeg) from by omega), if_pos c47_4]
          have e8_4 : F_5takes_en c en sta = ((nI ((en.toNatClampNeg))) + (nI (1))) := by rw [F_5takes_en, if_pos (show 3 ≤ (sta.toNatClampNeg) from by omega), if_pos (show 6 ≤ (sta.toNatClampNeg) from by omega), if_pos (show 10 ≤ (sta.toNatClampNeg) from by omega), if_pos c47_4]
          have e8_5 : F_5takes_sta c fr to un en sta = (F_5goesOn_sta (nI (1)) (nI (0)) sta) := by rw [F_5takes_sta, if_pos (show 3 ≤ (sta.toNatClampNeg) from by omega), if_pos (show 6 ≤ (sta.toNatClampNeg) from by omega), if_pos (show 10 ≤ (sta.toNatClampNeg) from by omega), if_pos c47_4]
          exact AR.retZ dc_X5_takes_80 rfl (by first | exact Or.inl rfl | exact Or.inr rfl | exact wi01 _ _ _ | apply F_5isOpen_01 | apply F_5mayHave_01 | apply F_5scans_01 | apply F_5takes_01 | apply F_5takesFirst_01 | apply F_5takesSecond_01 | apply F_5takesYear_01) e8_0.symm (by rw [e8_1, e8_2, e8_3, e8_4, e8_5])
      · refine AR.run g_X5_takes_38_2 40 [some (.ref 16384), some (.int (c)), none] [.int (c), .ref 16384] _ [] rfl trivial ?_
        refine AR.callV1 (16384) [.int (c)] [] lk_5_137 dc_X5_takes_40 rfl rfl (s_5takesYear _ c (by assumption) (by assumption) (by omega) (by omega) (by omega)) (by first | rfl | (simp only [nI_add, pk_mul]; first | done | rfl)) rfl ?_
        have e9_0 : F_5takes c fr to un en sta = (F_5takesYear c un en sta) := by rw [F_5takes, if_pos (show 3 ≤ (sta.toNatClampNeg) from by omega), if_pos (show 6 ≤ (sta.toNatClampNeg) from by omega), if_neg (show ¬ (10 ≤ (sta.toNatClampNeg)) from by omega)]
        have e9_1 : F_5takes_fr c fr en sta = fr := by rw [F_5takes_fr, if_pos (show 3 ≤ (sta.toNatClampNeg) from by omega), if_pos (show 6 ≤ (sta.toNatClampNeg) from by omega), if_neg (show ¬ (10 ≤ (sta.toNatClampNeg)) from by omega)]
        have e9_2 : F_5takes_to c fr to en sta = to := by rw [F_5takes_to, if_pos (show 3 ≤ (sta.toNatClampNeg) from by omega), if_pos (show 6 ≤ (sta.toNatClampNeg) from by omega), if_neg (show ¬ (10 ≤ (sta.toNatClampNeg)) from by omega)]
        have e9_3 : F_5takes_un c un en sta = (F_5takesYear_un c un en sta) := by rw [F_5takes_un, if_pos (show 3 ≤ (sta.toNatClampNeg) from by omega), if_pos (show 6 ≤ (sta.toNatClampNeg) from by omega), if_neg (show ¬ (10 ≤ (sta.toNatClampNeg)) from by omega)]
        have e9_4 : F_5takes_en c en sta = en := by rw [F_5takes_en, if_pos (show 3 ≤ (sta.toNatClampNeg) from by omega), if_pos (show 6 ≤ (sta.toNatClampNeg) from by omega), if_neg (show ¬ (10 ≤ (sta.toNatClampNeg)) from by omega)]
        have e9_5 : F_5takes_sta c fr to un en sta = (F_5takesYear_sta c un en sta) := by rw [F_5takes_sta, if_pos (show 3 ≤ (sta.toNatClampNeg) from by omega), if_pos (show 6 ≤ (sta.toNatClampNeg) from by omega), if_neg (show ¬ (10 ≤ (sta.toNatClampNeg)) from by omega)]
        exact AR.retZ dc_X5_takes_43 rfl (by first | exact Or.inl rfl | exact Or.inr rfl | exact wi01 _ _ _ | apply F_5isOpen_01 | apply F_5mayHave_01 | apply F_5scans_01 | apply F_5takes_01 | apply F_5takesFirst_01 | apply F_5takesSecond_01 | apply F_5takesYear_01) e9_0.symm (by rw [e9_1, e9_2, e9_3, e9_4, e9_5])
    · refine AR.run g_X5_takes_23_2 25 [some (.ref 16384), some (.int (c)), none] [.int (c), .ref 16384] _ [] rfl trivial ?_
      refine AR.callV1 (16384) [.int (c)] [] lk_5_134 dc_X5_takes_25 rfl rfl (s_5takesSecond _ c (by assumption) (by assumption) (by omega) (by omega)) (by first | rfl | (simp only [nI_add, pk_mul]; first | done | rfl)) rfl ?_
      have e10_0 : F_5takes c fr to un en sta = (F_5takesSecond c fr to en sta) := by rw [F_5takes, if_pos (show 3 ≤ (sta.toNatClampNeg) from by omega), if_neg (show ¬ (6 ≤ (sta.toNatClampNeg)) from by omega)]
      have e10_1 : F_5takes_fr c fr en sta = fr := by rw [F_5takes_fr, if_pos (show 3 ≤ (sta.toNatClampNeg) from by omega), if_neg (show ¬ (6 ≤ (sta.toNatClampNeg)) from by omega)]
      have e10_2 : F_5takes_to c fr to en sta = (F_5takesSecond_to c fr to en sta) := by rw [F_5takes_to, if_pos (show 3 ≤ (sta.toNatClampNeg) from by omega), if_neg (show ¬ (6 ≤ (sta.toNatClampNeg)) from by omega)]
      have e10_3 : F_5takes_un c un en sta = un := by rw [F_5takes_un, if_pos (show 3 ≤ (sta.toNatClampNeg) from by omega), if_neg (show ¬ (6 ≤ (sta.toNatClampNeg)) from by omega)]
      have e10_4 : F_5takes_en c en sta = en := by rw [F_5takes_en, if_pos (show 3 ≤ (sta.toNatClampNeg) from by omega), if_neg (show ¬ (6 ≤ (sta.toNatClampNeg)) from by omega)]
      have e10_5 : F_5takes_sta c fr to un en sta = (F_5takesSecond_sta c fr to en sta) := by rw [F_5takes_sta, if_pos (show 3 ≤ (sta.toNatClampNeg) from by omega), if_neg (show ¬ (6 ≤ (sta.toNatClampNeg)) from by omega)]
      exact AR.retZ dc_X5_takes_28 rfl (by first | exact Or.inl rfl | exact Or.inr rfl | exact wi01 _ _ _ | apply F_5isOpen_01 | apply F_5mayHave_01 | apply F_5scans_01 | apply F_5takes_01 | apply F_5takesFirst_01 | apply F_5takesSecond_01 | apply F_5takesYear_01) e10_0.symm (by rw [e10_1, e10_2, e10_3, e10_4, e10_5])
  · refine AR.run g_X5_takes_8_2 10 [some (.ref 16384), some (.int (c)), none] [.int (c), .ref 16384] _ [] rfl trivial ?_
    refine AR.callV1 (16384) [.int (c)] [] lk_5_131 dc_X5_takes_10 rfl rfl (s_5takesFirst _ c (by assumption) (by assumption) (by omega) (by omega)) (by first | rfl | (simp only [nI_add, pk_mul]; first | done | rfl)) rfl ?_
    have e11_0 : F_5takes c fr to un en sta = (F_5takesFirst c fr en sta) := by rw [F_5takes, if_neg (show ¬ (3 ≤ (sta.toNatClampNeg)) from by omega)]
    have e11_1 : F_5takes_fr c fr en sta = (F_5takesFirst_fr c fr en sta) := by rw [F_5takes_fr, if_neg (show ¬ (3 ≤ (sta.toNatClampNeg)) from by omega)]
    have e11_2 : F_5takes_to c fr to en sta = (F_5takesFirst_to c fr to en sta) := by rw [F_5takes_to, if_neg (show ¬ (3 ≤ (sta.toNatClampNeg)) from by omega)]
    have e11_3 : F_5takes_un c un en sta = un := by rw [F_5takes_un, if_neg (show ¬ (3 ≤ (sta.toNatClampNeg)) from by omega)]
    have e11_4 : F_5takes_en c en sta = en := by rw [F_5takes_en, if_neg (show ¬ (3 ≤ (sta.toNatClampNeg)) from by omega)]
    have e11_5 : F_5takes_sta c fr to un en sta = (F_5takesFirst_sta c fr en sta) := by rw [F_5takes_sta, if_neg (show ¬ (3 ≤ (sta.toNatClampNeg)) from by omega)]
    exact AR.retZ dc_X5_takes_13 rfl (by first | exact Or.inl rfl | exact Or.inr rfl | exact wi01 _ _ _ | apply F_5isOpen_01 | apply F_5mayHave_01 | apply F_5scans_01 | apply F_5takes_01 | apply F_5takesFirst_01 | apply F_5takesSecond_01 | apply F_5takesYear_01) e11_0.symm (by rw [e11_1, e11_2, e11_3, e11_4, e11_5])
