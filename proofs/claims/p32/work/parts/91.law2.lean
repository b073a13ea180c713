def F_Lway (v : Nat) (e : Nat) (vo : Nat → Int32) (ca : Nat → Int32) (st : Nat → Int32) : Int32 := ((nI (1)) + ((st 3) * (F_Labs ((vo (7 * v)) - (ca (4 * e))))))
theorem g_L_way_0_3 : ab_oks M_L_way [(0, .iconst 1, 1, 0, 0, 0, .int (nI (1))), (1, .aload 4, 2, 4, 0, 0, .null), (3, .iconst 3, 1, 0, 0, 0, .int (nI (3)))] = true := by decide +kernel
theorem ok_L_way_4 : ab_ok M_L_way (4, .iaload, 1, 0, 0, 0, .null) = true := by decide +kernel
theorem g_L_way_5_4 : ab_oks M_L_way [(5, .aload_n 2, 1, 2, 0, 0, .null), (6, .bipush 7, 2, 0, 0, 0, .int (nI (7))), (8, .iload_n 0, 1, 0, 0, 0, .null), (9, .imul, 1, 0, 0, 0, .null)] = true := by decide +kernel
theorem ok_L_way_10 : ab_ok M_L_way (10, .iaload, 1, 0, 0, 0, .null) = true := by decide +kernel
theorem g_L_way_11_4 : ab_oks M_L_way [(11, .aload_n 3, 1, 3, 0, 0, .null), (12, .iconst 4, 1, 0, 0, 0, .int (nI (4))), (13, .iload_n 1, 1, 1, 0, 0, .null), (14, .imul, 1, 0, 0, 0, .null)] = true := by decide +kernel
theorem ok_L_way_15 : ab_ok M_L_way (15, .iaload, 1, 0, 0, 0, .null) = true := by decide +kernel
theorem g_L_way_16_1 : ab_oks M_L_way [(16, .isub, 1, 0, 0, 0, .null)] = true := by decide +kernel
theorem lk_L_21 : ab_lkS "LeafCradlesLaw" 21 M_L_abs 1 [487, 488, 28, 489] = true := by decide +kernel
theorem dc_L_way_17 : decode (AM.bytes M_L_way) 17 = .ok (.invokestatic 21, 3) := by decide +kernel
theorem g_L_way_20_2 : ab_oks M_L_way [(20, .imul, 1, 0, 0, 0, .null), (21, .iadd, 1, 0, 0, 0, .null)] = true := by decide +kernel
theorem dc_L_way_22 : decode (AM.bytes M_L_way) 22 = .ok (.ireturn, 1) := by decide +kernel
set_option maxRecDepth 100000 in
set_option maxHeartbeats 4000000 in
theorem s_Lway {E : AE} (d : Nat) (v : Nat) (e : Nat)  {o0 a0 t0 p0 u0 l0 : List AC} {vo ls ln lb cr ca lo st cc : Nat → Int32} (hv : v < 4) (he : e < 2) : CT E M_L_way (d + 1) [.int (nI (v)), .int (nI (e)), .ref 16384, .ref 16389, .ref 16391] (hp o0 a0 t0 p0 (la_ vo ls ln lb cr ca lo st cc) u0 l0) (.inl (some (.int (F_Lway v e vo ca st)))) (hp o0 a0 t0 p0 (la_ vo ls ln lb cr ca lo st cc) u0 l0) 0 0 := by
  refine CT.of (L := [some (.int (nI (v))), some (.int (nI (e))), some (.ref 16384), some (.ref 16389), some (.ref 16391)]) rfl rfl ?_
  refine AR.run g_L_way_0_3 4 [some (.int (nI (v))), some (.int (nI (e))), some (.ref 16384), some (.ref 16389), some (.ref 16391)] [.int (nI (3)), .ref 16391, .int (nI (1))] _ [] rfl trivial ?_
  refine AR.ald (n := 0) (e := 3) ok_L_way_4 (by first | rfl | (simp only [nI_add, pk_mul]; first | done | rfl)) rfl (by omega) (by first | decide | omega) ?_
  refine AR.run g_L_way_5_4 10 [some (.int (nI (v))), some (.int (nI (e))), some (.ref 16384), some (.ref 16389), some (.ref 16391)] [.int ((nI (7)) * (nI (v))), .ref 16384, .int (st 3), .int (nI (1))] _ [] rfl trivial ?_
  refine AR.ald (n := 0) (e := (7 * v)) ok_L_way_10 (by first | rfl | (simp only [nI_add, pk_mul]; first | done | rfl)) rfl (by omega) (by first | decide | omega) ?_
  refine AR.run g_L_way_11_4 15 [some (.int (nI (v))), some (.int (nI (e))), some (.ref 16384), some (.ref 16389), some (.ref 16391)] [.int ((nI (4)) * (nI (e))), .ref 16389, .int (vo (7 * v)), .int (st 3), .int (nI (1))] _ [] rfl trivial ?_
  refine AR.ald (n := 0) (e := (4 * e)) ok_L_way_15 (by first | rfl | (simp only [nI_add, pk_mul]; first | done | rfl)) rfl (by omega) (by first | decide | omega) ?_
  refine AR.run g_L_way_16_1 17 [some (.int (nI (v))), some (.int (nI (e))), some (.ref 16384), some (.ref 16389), some (.ref 16391)] [.int ((vo (7 * v)) - (ca (4 * e))), .int (st 3), .int (nI (1))] _ [] rfl trivial ?_
  refine AR.callS1 [.int ((vo (7 * v)) - (ca (4 * e)))] [.int (st 3), .int (nI (1))] lk_L_21 dc_L_way_17 (s_Labs _ ((vo (7 * v)) - (ca (4 * e))) ) (by first | rfl | (simp only [nI_add, pk_mul]; first | done | rfl)) rfl ?_
  refine AR.run g_L_way_20_2 22 [some (.int (nI (v))), some (.int (nI (e))), some (.ref 16384), some (.ref 16389), some (.ref 16391)] [.int ((nI (1)) + ((st 3) * (F_Labs ((vo (7 * v)) - (ca (4 * e))))))] _ [] rfl trivial ?_
  have e1_0 : F_Lway v e vo ca st = ((nI (1)) + ((st 3) * (F_Labs ((vo (7 * v)) - (ca (4 * e)))))) := by rw [F_Lway]
  exact AR.retI dc_L_way_22 rfl e1_0.symm rfl
def F_Lwhy (v : Nat) (k : Nat) (e : Nat) (nv : Nat) (vo : Nat → Int32) (ls : Nat → Int32) (cr : Nat → Int32) (ca : Nat → Int32) : Int32 := if (vo ((7 * v) + 5)) < 0 then if (vo ((7 * v) + 6)) ≤ 0 then if (oI (onL vo (nI (k)) nv)) < 0 then if (vo ((7 * v) + 1)) ≤ (cr (4 * k)) then if (vo ((7 * v) + 3)) ≤ (cr ((4 * k) + 1)) then if 0 ≤ (oI (nxL vo ls v)) then if (ca ((4 * e) + 1)) ≤ 0 then (nI (0)) else (nI (7)) else (nI (6)) else (nI (5)) else (nI (4)) else (nI (3)) else (nI (2)) else (nI (1))
theorem g_L_why_0_6 : ab_oks M_L_why [(0, .aload_n 3, 1, 3, 0, 0, .null), (1, .bipush 7, 2, 0, 0, 0, .int (nI (7))), (3, .iload_n 0, 1, 0, 0, 0, .null), (4, .imul, 1, 0, 0, 0, .null), (5, .iconst 5, 1, 0, 0, 0, .int (nI (5))), (6, .iadd, 1, 0, 0, 0, .null)] = true := by decide +kernel
theorem ok_L_why_7 : ab_ok M_L_why (7, .iaload, 1, 0, 0, 0, .null) = true := by decide +kernel
theorem dc_L_why_8 : decode (AM.bytes M_L_why) 8 = .ok (.ifCond .lt 7, 3) := by decide +kernel
theorem g_L_why_15_6 : ab_oks M_L_why [(15, .aload_n 3, 1, 3, 0, 0, .null), (16, .bipush 7, 2, 0, 0, 0, .int (nI (7))), (18, .iload_n 0, 1, 0, 0, 0, .null), (19, .imul, 1, 0, 0, 0, .null), (20, .bipush 6, 2, 0, 0, 0, .int (nI (6))), (22, .iadd, 1, 0, 0, 0, .null)] = true := by decide +kernel
theorem ok_L_why_23 : ab_ok M_L_why (23, .iaload, 1, 0, 0, 0, .null) = true := by decide +kernel
theorem dc_L_why_24 : decode (AM.bytes M_L_why) 24 = .ok (.ifCond .le 7, 3) := by decide +kernel
theorem g_L_why_31_3 : ab_oks M_L_why [(31, .iload_n 1, 1, 1, 0, 0, .null), (32, .aload_n 3, 1, 3, 0, 0, .null), (33, .aload 7, 2, 7, 0, 0, .null)] = true := by decide +kernel
theorem dc_L_why_35 : decode (AM.bytes M_L_why) 35 = .ok (.invokestatic 8, 3) := by decide +kernel
theorem dc_L_why_38 : decode (AM.bytes M_L_why) 38 = .ok (.ifCond .lt 7, 3) := by decide +kernel
theorem g_L_why_45_4 : ab_oks M_L_why [(45, .aload 5, 2, 5, 0, 0, .null), (47, .iconst 4, 1, 0, 0, 0, .int (nI (4))), (48, .iload_n 1, 1, 1, 0, 0, .null), (49, .imul, 1, 0, 0, 0, .null)] = true := by decide +kernel
theorem ok_L_why_50 : ab_ok M_L_why (50, .iaload, 1, 0, 0, 0, .null) = true := by decide +kernel
theorem g_L_why_51_6 : ab_oks M_L_why [(51, .aload_n 3, 1, 3, 0, 0, .null), (52, .bipush 7, 2, 0, 0, 0, .int (nI (7))), (54, .iload_n 0, 1, 0, 0, 0, .null), (55, .imul, 1, 0, 0, 0, .null), (56, .iconst 1, 1, 0, 0, 0, .int (nI (1))), (57, .iadd, 1, 0, 0, 0, .null)] = true := by decide +kernel
theorem ok_L_why_58 : ab_ok M_L_why (58, .iaload, 1, 0, 0, 0, .null) = true := by decide +kernel
theorem dc_L_why_59 : decode (AM.bytes M_L_why) 59 = .ok (.if_icmp .ge 7, 3) := by decide +kernel
theorem g_L_why_66_6 : ab_oks M_L_why [(66, .aload_n 3, 1, 3, 0, 0, .null), (67, .bipush 7, 2, 0, 0, 0, .int (nI (7))), (69, .iload_n 0, 1, 0, 0, 0, .null), (70, .imul, 1, 0, 0, 0, .null), (71, .iconst 3, 1, 0, 0, 0, .int (nI (3))), (72, .iadd, 1, 0, 0, 0, .null)] = true := by decide +kernel
theorem ok_L_why_73 : ab_ok M_L_why (73, .iaload, 1, 0, 0, 0, .null) = true := by decide +kernel
theorem g_L_why_74_6 : ab_oks M_L_why [(74, .aload 5, 2, 5, 0, 0, .null), (76, .iconst 4, 1, 0, 0, 0, .int (nI (4))), (77, .iload_n 1, 1, 1, 0, 0, .null), (78, .imul, 1, 0, 0, 0, .null), (79, .iconst 1, 1, 0, 0, 0, .int (nI (1))), (80, .iadd, 1, 0, 0, 0, .null)] = true := by decide +kernel
theorem ok_L_why_81 : ab_ok M_L_why (81, .iaload, 1, 0, 0, 0, .null) = true := by decide +kernel
theorem dc_L_why_82 : decode (AM.bytes M_L_why) 82 = .ok (.if_icmp .le 7, 3) := by decide +kernel
theorem g_L_why_89_3 : ab_oks M_L_why [(89, .iload_n 0, 1, 0, 0, 0, .null), (90, .aload_n 3, 1, 3, 0, 0, .null), (91, .aload 4, 2, 4, 0, 0, .null)] = true := by decide +kernel
theorem dc_L_why_93 : decode (AM.bytes M_L_why) 93 = .ok (.invokestatic 14, 3) := by decide +kernel
theorem dc_L_why_96 : decode (AM.bytes M_L_why) 96 = .ok (.ifCond .ge 8, 3) := by decide +kernel
theorem g_L_why_104_6 : ab_oks M_L_why [(104, .aload 6, 2, 6, 0, 0, .null), (106, .iconst 4, 1, 0, 0, 0, .int (nI (4))), (107, .iload_n 2, 1, 2, 0, 0, .null), (108, .imul, 1, 0, 0, 0, .null), (109, .iconst 1, 1, 0, 0, 0, .int (nI (1))), (110, .iadd, 1, 0, 0, 0, .null)] = true := by decide +kernel
theorem ok_L_why_111 : ab_ok M_L_why (111, .iaload, 1, 0, 0, 0, .null) = true := by decide +kernel
theorem dc_L_why_112 : decode (AM.bytes M_L_why) 112 = .ok (.ifCond .le 8, 3) := by decide +kernel
theorem g_L_why_120_1 : ab_oks M_L_why [(120, .iconst 0, 1, 0, 0, 0, .int (nI (0)))] = true := by decide +kernel
theorem dc_L_why_121 : decode (AM.bytes M_L_why) 121 = .ok (.ireturn, 1) := by decide +kernel
theorem g_L_why_115_2 : ab_oks M_L_why [(115, .bipush 7, 2, 0, 0, 0, .int (nI (7))), (117, .goto 4, 3, 121, 0, 0, .null)] = true := by decide +kernel
theorem g_L_why_99_2 : ab_oks M_L_why [(99, .bipush 6, 2, 0, 0, 0, .int (nI (6))), (101, .goto 20, 3, 121, 0, 0, .null)] = true := by decide +kernel
theorem g_L_why_85_2 : ab_oks M_L_why [(85, .iconst 5, 1, 0, 0, 0, .int (nI (5))), (86, .goto 35, 3, 121, 0, 0, .null)] = true := by decide +kernel
theorem g_L_why_62_2 : ab_oks M_L_why [(62, .iconst 4, 1, 0, 0, 0, .int (nI (4))), (63, .goto 58, 3, 121, 0, 0, .null)] = true := by decide +kernel
theorem g_L_why_41_2 : ab_oks M_L_why [(41, .iconst 3, 1, 0, 0, 0, .int (nI (3))), (42, .goto 79, 3, 121, 0, 0, .null)] = true := by decide +kernel
theorem g_L_why_27_2 : ab_oks M_L_why [(27, .iconst 2, 1, 0, 0, 0, .int (nI (2))), (28, .goto 93, 3, 121, 0, 0, .null)] = true := by decide +kernel
theorem g_L_why_11_2 : ab_oks M_L_why [(11, .iconst 1, 1, 0, 0, 0, .int (nI (1))), (12, .goto 109, 3, 121, 0, 0, .null)] = true := by decide +kernel
set_option maxRecDepth 100000 in
set_option maxHeartbeats 4000000 in
theorem s_Lwhy {E : AE} (d : Nat) (v : Nat) (k : Nat) (e : Nat) {nv : Nat}  {o0 a0 t0 p0 u0 l0 : List AC} {vo ls ln lb cr ca lo st cc : Nat → Int32} (hv : v < nv) (hk : k < 2) (he : e < 2) (hc0 : cc 0 = nI nv) (h4 : nv ≤ 4) (hL : ∀ v, v < nv → vo (7 * v + 2) = nI (lL vo v) ∧ lL vo v ≤ 8) : CT E M_L_why (d + 1) [.int (nI (v)), .int (nI (k)), .int (nI (e)), .ref 16384, .ref 16385, .ref 16388, .ref 16389, .ref 16392] (hp o0 a0 t0 p0 (la_ vo ls ln lb cr ca lo st cc) u0 l0) (.inl (some (.int (F_Lwhy v k e nv vo ls cr ca)))) (hp o0 a0 t0 p0 (la_ vo ls ln lb cr ca lo st cc) u0 l0) 0 0 := by
  refine CT.of (L := [some (.int (nI (v))), some (.int (nI (k))), some (.int (nI (e))), some (.ref 16384), some (.ref 16385), some (.ref 16388), some (.ref 16389), some (.ref 16392)]) rfl rfl ?_
  refine AR.run g_L_why_0_6 7 [some (.int (nI (v))), some (.int (nI (k))), some (.int (nI (e))), some (.ref 16384), some (.ref 16385), some (.ref 16388), some (.ref 16389), some (.ref 16392)] [.int (((nI (7)) * (nI (v))) + (nI (5))), .ref 16384] _ [] rfl trivial ?_
  refine AR.ald (n := 0) (e := ((7 * v) + 5)) ok_L_why_7 (by first | rfl | (simp only [nI_add, pk_mul]; first | done | rfl)) rfl (by omega) (by first | decide | omega) ?_
  refine AR.lt (tgt := 15) dc_L_why_8 (by decide) (fun c8_1 => ?_) (fun c8_1 => ?_)
  · refine AR.run g_L_why_15_6 23 [some (.int (nI (v))), some (.int (nI (k))), some (.int (nI (e))), some (.ref 16384), some (.ref 16385), some (.ref 16388), some (.ref 16389), some (.ref 16392)] [.int (((nI (7)) * (nI (v))) + (nI (6))), .ref 16384] _ [] rfl trivial ?_
    refine AR.ald (n := 0) (e := ((7 * v) + 6)) ok_L_why_23 (by first | rfl | (simp only [nI_add, pk_mul]; first | done | rfl)) rfl (by omega) (by first | decide | omega) ?_
    refine AR.le (tgt := 31) dc_L_why_24 (by decide) (fun c24_2 => ?_) (fun c24_2 => ?_)
    · refine AR.run g_L_why_31_3 35 [some (.int (nI (v))), some (.int (nI (k))), some (.int (nI (e))), some (.ref 16384), some (.ref 16385), some (.ref 16388), some (.ref 16389), some (.ref 16392)] [.ref 16392, .ref 16384, .int (nI (k))] _ [] rfl trivial ?_
      refine AR.callS1 [.int (nI (k)), .ref 16384, .ref 16392] [] lk_L_8 dc_L_why_35 (s_LonO _ (nI (k)) (by assumption) (by omega)) (by first | rfl | (simp only [nI_add, pk_mul]; first | done | rfl)) rfl ?_
      refine AR.lt (tgt := 45) dc_L_why_38 (by decide) (fun c38_3 => ?_) (fun c38_3 => ?_)
      · refine AR.run g_L_why_45_4 50 [some (.int (nI (v))), some (.int (nI (k))), some (.int (nI (e))), some (.ref 16384), some (.ref 16385), some (.ref 16388), some (.ref 16389), some (.ref 16392)] [.int ((nI (4)) * (nI (k))), .ref 16388] _ [] rfl trivial ?_
        refine AR.ald (n := 0) (e := (4 * k)) ok_L_why_50 (by first | rfl | (simp only [nI_add, pk_mul]; first | done | rfl)) rfl (by omega) (by first | decide | omega) ?_
        refine AR.run g_L_why_51_6 58 [some (.int (nI (v))), some (.int (nI (k))), some (.int (nI (e))), some (.ref 16384), some (.ref 16385), some (.ref 16388), some (.ref 16389), some (.ref 16392)] [.int (((nI (7)) * (nI (v))) + (nI (1))), .ref 16384, .int (cr (4 * k))] _ [] rfl trivial ?_
        refine AR.ald (n := 0) (e := ((7 * v) + 1)) ok_L_why_58 (by first | rfl | (simp only [nI_add, pk_mul]; first | done | rfl)) rfl (by omega) (by first | decide | omega) ?_
        refine AR.ge2 (tgt := 66) dc_L_why_59 (by decide) (fun c59_4 => ?_) (fun c59_4 => ?_)
        · refine AR.run g_L_why_66_6 73 [some (.int (nI (v))), some (.int (nI (k))), some (.int (nI (e))), some (.ref 16384), some (.ref 16385), some (.ref 16388), some (.ref 16389), some (.ref 16392)] [.int (((nI (7)) * (nI (v))) + (nI (3))), .ref 16384] _ [] rfl trivial ?_
          refine AR.ald (n := 0) (e := ((7 * v) + 3)) ok_L_why_73 (by first | rfl | (simp only [nI_add, pk_mul]; first | done | rfl)) rfl (by omega) (by first | decide | omega) ?_
          refine AR.run g_L_why_74_6 81 [some (.int (nI (v))), some (.int (nI (k))), some (.int (nI (e))), some (.ref 16384), some (.ref 16385), some (.ref 16388), some (.ref 16389), some (.ref 16392)] [.int (((nI (4)) * (nI (k))) + (nI (1))), .ref 16388, .int (vo ((7 * v) + 3))] _ [] rfl trivial ?_
          refine AR.ald (n := 0) (e := ((4 * k) + 1)) ok_L_why_81 (by first | rfl | (simp only [nI_add, pk_mul]; first | done | rfl)) rfl (by omega) (by first | decide | omega) ?_
          refine AR.le2 (tgt := 89) dc_L_why_82 (by decide) (fun c82_5 => ?_) (fun c82_5 => ?_)
          · refine AR.run g_L_why_89_3 93 [some (.int (nI (v))), some (.int (nI (k))), some (.int (nI (e))), some (.ref 16384), some (.ref 16385), some (.ref 16388), some (.ref 16389), some (.ref 16392)] [.ref 16385, .ref 16384, .int (nI (v))] _ [] rfl trivial ?_
            refine AR.callS1 [.int (nI (v)), .ref 16384, .ref 16385] [] lk_L_14 dc_L_why_93 (s_LnextO _ v (by omega) (by first | assumption | exact (hL v (by omega)).1) (by first | assumption | exact (hL v (by omega)).2)) (by first | rfl | (simp only [nI_add, pk_mul]; first | done | rfl)) rfl ?_
            refine AR.ge (tgt := 104) dc_L_why_96 (by decide) (fun c96_6 => ?_) (fun c96_6 => ?_)
            · refine AR.run g_L_why_104_6 111 [some (.int (nI (v))), some (.int (nI (k))), some (.int (nI (e))), some (.ref 16384), some (.ref 16385), some (.ref 16388), some (.ref 16389), some (.ref 16392)] [.int (((nI (4)) * (nI (e))) + (nI (1))), .ref 16389] _ [] rfl trivial ?_
              refine AR.ald (n := 0) (e := ((4 * e) + 1)) ok_L_why_111 (by first | rfl | (simp only [nI_add, pk_mul]; first | done | rfl)) rfl (by omega) (by first | decide | omega) ?_
              refine AR.le (tgt := 120) dc_L_why_112 (by decide) (fun c112_7 => ?_) (fun c112_7 => ?_)
              · refine AR.run g_L_why_120_1 121 [some (.int (nI (v))), some (.int (nI (k))), some (.int (nI (e))), some (.ref 16384), some (.ref 16385), some (.ref 16388), some (.ref 16389), some (.ref 16392)] [.int (nI (0))] _ [] rfl trivial ?_
                have e8_0 : F_Lwhy v k e nv vo ls cr ca = (nI (0)) := by rw [F_Lwhy, if_pos c8_1, if_pos c24_2, if_pos c38_3, if_pos c59_4, if_pos c82_5, if_pos c96_6, if_pos c112_7]
                exact AR.retI dc_L_why_121 rfl e8_0.symm rfl
              · refine AR.run g_L_why_115_2 121 [some (.int (nI (v))), some (.int (nI (k))), some (.int (nI (e))), some (.ref 16384), some (.ref 16385), some (.ref 16388), some (.ref 16389), some (.ref 16392)] [.int (nI (7))] _ [] rfl trivial ?_
                have e9_0 : F_Lwhy v k e nv vo ls cr ca = (nI (7)) := by rw [F_Lwhy, if_pos c8_1, if_pos c24_2, if_pos c38_3, if_pos c59_4, if_pos c82_5, if_pos c96_6, if_neg c112_7]
                exact AR.retI dc_L_why_121 rfl e9_0.symm rfl
            · refine AR.run g_L_why_99_2 121 [some (.int (nI (v))), some (.int (nI (k))), some (.int (nI (e))), some (.ref 16384), some (.ref 16385), some (.ref 16388), some (.ref 16389), some (.ref 16392)] [.int (nI (6))] _ [] rfl trivial ?_
              have e10_0 : F_Lwhy v k e nv vo ls cr ca = (nI (6)) := by rw [F_Lwhy, if_pos c8_1, if_pos c24_2, if_pos c38_3, if_pos c59_4, if_pos c82_5, if_neg c96_6]
              exact AR.retI dc_L_why_121 rfl e10_0.symm rfl
          · refine AR.run g_L_why_85_2 121 [some (.int (nI (v))), some (.int (nI (k))), some (.int (nI (e))), some (.ref 16384), some (.ref 16385), some (.ref 16388), some (.ref 16389), some (.ref 16392)] [.int (nI (5))] _ [] rfl trivial ?_
            have e11_0 : F_Lwhy v k e nv vo ls cr ca = (nI (5)) := by rw [F_Lwhy, if_pos c8_1, if_pos c24_2, if_pos c38_3, if_pos c59_4, if_neg c82_5]
            exact AR.retI dc_L_why_121 rfl e11_0.symm rfl
        · refine AR.run g_L_why_62_2 121 [some (.int (nI (v))), some (.int (nI (k))), some (.int (nI (e))), some (.ref 16384), some (.ref 16385), some (.ref 16388), some (.ref 16389), some (.ref 16392)] [.int (nI (4))] _ [] rfl trivial ?_
          have e12_0 : F_Lwhy v k e nv vo ls cr ca = (nI (4)) := by rw [F_Lwhy, if_pos c8_1, if_pos c24_2, if_pos c38_3, if_neg c59_4]
          exact AR.retI dc_L_why_121 rfl e12_0.symm rfl
      · refine AR.run g_L_why_41_2 121 [some (.int (nI (v))), some (.int (nI (k))), some (.int (nI (e))), some (.ref 16384), some (.ref 16385), some (.ref 16388), some (.ref 16389), some (.ref 16392)] [.int (nI (3))] _ [] rfl trivial ?_
        have e13_0 : F_Lwhy v k e nv vo ls cr ca = (nI (3)) := by rw [F_Lwhy, if_pos c8_1, if_pos c24_2, if_neg c38_3]
        exact AR.retI dc_L_why_121 rfl e13_0.symm rfl
    · refine AR.run g_L_why_27_2 121 [some (.int (nI (v))), some (.int (nI (k))), some (.int (nI (e))), some (.ref 16384), some (.ref 16385), some (.ref 16388), some (.ref 16389), some (.ref 16392)] [.int (nI (2))] _ [] rfl trivial ?_
      have e14_0 : F_Lwhy v k e nv vo ls cr ca = (nI (2)) := by rw [F_Lwhy, if_pos c8_1, if_neg c24_2]
      exact AR.retI dc_L_why_121 rfl e14_0.symm rfl
  · refine AR.run g_L_why_11_2 121 [some (.int (nI (v))), some (.int (nI (k))), some (.int (nI (e))), some (.ref 16384), some (.ref 16385), some (.ref 16388), some (.ref 16389), some (.ref 16392)] [.int (nI (1))] _ [] rfl trivial ?_
    have e15_0 : F_Lwhy v k e nv vo ls cr ca = (nI (1)) := by rw [F_Lwhy, if_neg c8_1]
    exact AR.retI dc_L_why_121 rfl e15_0.symm rfl
def F_LgoesA (v : Nat) (e : Nat) (vo : Nat → Int32) (ca : Nat → Int32) (st : Nat → Int32) : Int32 := (F_Lway v e vo ca st)
def F_LgoesA_vo (v : Nat) (k : Nat) (e : Nat) (vo : Nat → Int32) (ca : Nat → Int32) (st : Nat → Int32) : Nat → Int32 := (upd (upd vo ((7 * v) + 5) (nI (k))) ((7 * v) + 6) (F_Lway v e vo ca st))
def F_LgoesA_cr (k : Nat) (cr : Nat → Int32) : Nat → Int32 := (upd cr ((4 * k) + 2) (nI (0)))
def F_LgoesA_ca (v : Nat) (e : Nat) (vo : Nat → Int32) (ca : Nat → Int32) (st : Nat → Int32) : Nat → Int32 := (upd (upd (upd (upd ca (4 * e) (vo (7 * v))) ((4 * e) + 1) (F_Lway v e vo ca st)) ((4 * e) + 2) ((ca ((4 * e) + 2)) + (nI (1)))) ((4 * e) + 3) ((ca ((4 * e) + 3)) + (F_Lway v e vo ca st)))
def F_LgoesA_lo (v : Nat) (k : Nat) (e : Nat) (ne : Nat) (vo : Nat → Int32) (ca : Nat → Int32) (lo : Nat → Int32) (st : Nat → Int32) (cc : Nat → Int32) : Nat → Int32 := (upd (upd (upd (upd (upd lo (5 * ne) (cc 3)) ((5 * ne) + 1) (nI (e))) ((5 * ne) + 2) (nI (v))) ((5 * ne) + 3) (nI (k))) ((5 * ne) + 4) (F_Lway v e vo ca st))
def F_LgoesA_cc (ne : Nat) (cc : Nat → Int32) : Nat → Int32 := (upd cc 5 (nI ((ne + 1))))
theorem g_L_goes_0_5 : ab_oks M_L_goes [(0, .iload_n 0, 1, 0, 0, 0, .null), (1, .iload_n 2, 1, 2, 0, 0, .null), (2, .aload_n 3, 1, 3, 0, 0, .null), (3, .aload 5, 2, 5, 0, 0, .null), (5, .aload 7, 2, 7, 0, 0, .null)] = true := by decide +kernel
theorem lk_L_25 : ab_lkS "LeafCradlesLaw" 25 M_L_way 5 [484, 485, 28, 486] = true := by decide +kernel
theorem dc_L_goes_7 : decode (AM.bytes M_L_goes) 7 = .ok (.invokestatic 25, 3) := by decide +kernel
theorem g_L_goes_10_4 : ab_oks M_L_goes [(10, .istore 9, 2, 9, 0, 0, .null), (12, .aload 4, 2, 4, 0, 0, .null), (14, .iconst 4, 1, 0, 0, 0, .int (nI (4))), (15, .iload_n 1, 1, 1, 0, 0, .null)] = true := by decide +kernel
theorem dc_L_goes_16 : decode (AM.bytes M_L_goes) 16 = .ok (.ifCond .ge 14, 3) := by decide +kernel
theorem g_L_goes_30_5 : ab_oks M_L_goes [(30, .iload_n 1, 1, 1, 0, 0, .null), (31, .imul, 1, 0, 0, 0, .null), (32, .iconst 2, 1, 0, 0, 0, .int (nI (2))), (33, .iadd, 1, 0, 0, 0, .null), (34, .iconst 0, 1, 0, 0, 0, .int (nI (0)))] = true := by decide +kernel
theorem ok_L_goes_35 : ab_ok M_L_goes (35, .iastore, 1, 0, 0, 0, .null) = true := by decide +kernel
theorem g_L_goes_36_7 : ab_oks M_L_goes [(36, .aload_n 3, 1, 3, 0, 0, .null), (37, .bipush 7, 2, 0, 0, 0, .int (nI (7))), (39, .iload_n 0, 1, 0, 0, 0, .null), (40, .imul, 1, 0, 0, 0, .null), (41, .iconst 5, 1, 0, 0, 0, .int (nI (5))), (42, .iadd, 1, 0, 0, 0, .null), (43, .iload_n 1, 1, 1, 0, 0, .null)] = true := by decide +kernel
theorem ok_L_goes_44 : ab_ok M_L_goes (44, .iastore, 1, 0, 0, 0, .null) = true := by decide +kernel
theorem g_L_goes_45_7 : ab_oks M_L_goes [(45, .aload_n 3, 1, 3, 0, 0, .null), (46, .bipush 7, 2, 0, 0, 0, .int (nI (7))), (48, .iload_n 0, 1, 0, 0, 0, .null), (49, .imul, 1, 0, 0, 0, .null), (50, .bipush 6, 2, 0, 0, 0, .int (nI (6))), (52, .iadd, 1, 0, 0, 0, .null), (53, .iload 9, 2, 9, 0, 0, .null)] = true := by decide +kernel
theorem ok_L_goes_55 : ab_ok M_L_goes (55, .iastore, 1, 0, 0, 0, .null) = true := by decide +kernel
theorem g_L_goes_56_8 : ab_oks M_L_goes [(56, .aload 5, 2, 5, 0, 0, .null), (58, .iconst 4, 1, 0, 0, 0, .int (nI (4))), (59, .iload_n 2, 1, 2, 0, 0, .null), (60, .imul, 1, 0, 0, 0, .null), (61, .aload_n 3, 1, 3, 0, 0, .null), (62, .bipush 7, 2, 0, 0, 0, .int (nI (7))), (64, .iload_n 0, 1, 0, 0, 0, .null), (65, .imul, 1, 0, 0, 0, .null)] = true := by decide +kernel
theorem ok_L_goes_66 : ab_ok M_L_goes (66, .iaload, 1, 0, 0, 0, .null) = true := by decide +kernel
theorem ok_L_goes_67 : ab_ok M_L_goes (67, .iastore, 1, 0, 0, 0, .null) = true := by decide +kernel
theorem g_L_goes_68_7 : ab_oks M_L_goes [(68, .aload 5, 2, 5, 0, 0, .null), (70, .iconst 4, 1, 0, 0, 0, .int (nI (4))), (71, .iload_n 2, 1, 2, 0, 0, .null), (72, .imul, 1, 0, 0, 0, .null), (73, .iconst 1, 1, 0, 0, 0, .int (nI (1))), (74, .iadd, 1, 0, 0, 0, .null), (75, .iload 9, 2, 9, 0, 0, .null)] = true := by decide +kernel
theorem ok_L_goes_77 : ab_ok M_L_goes (77, .iastore, 1, 0, 0, 0, .null) = true := by decide +kernel
theorem g_L_goes_78_7 : ab_oks M_L_goes [(78, .aload 5, 2, 5, 0, 0, .null), (80, .iconst 4, 1, 0, 0, 0, .int (nI (4))), (81, .iload_n 2, 1, 2, 0, 0, .null), (82, .imul, 1, 0, 0, 0, .null), (83, .iconst 2, 1, 0, 0, 0, .int (nI (2))), (84, .iadd, 1, 0, 0, 0, .null), (85, .dup2, 1, 0, 0, 0, .null)] = true := by decide +kernel
theorem ok_L_goes_86 : ab_ok M_L_goes (86, .iaload, 1, 0, 0, 0, .null) = true := by decide +kernel
theorem g_L_goes_87_2 : ab_oks M_L_goes [(87, .iconst 1, 1, 0, 0, 0, .int (nI (1))), (88, .iadd, 1, 0, 0, 0, .null)] = true := by decide +kernel
theorem ok_L_goes_89 : ab_ok M_L_goes (89, .iastore, 1, 0, 0, 0, .null) = true := by decide +kernel
theorem g_L_goes_90_7 : ab_oks M_L_goes [(90, .aload 5, 2, 5, 0, 0, .null), (92, .iconst 4, 1, 0, 0, 0, .int (nI (4))), (93, .iload_n 2, 1, 2, 0, 0, .null), (94, .imul, 1, 0, 0, 0, .null), (95, .iconst 3, 1, 0, 0, 0, .int (nI (3))), (96, .iadd, 1, 0, 0, 0, .null), (97, .dup2, 1, 0, 0, 0, .null)] = true := by decide +kernel
theorem ok_L_goes_98 : ab_ok M_L_goes (98, .iaload, 1, 0, 0, 0, .null) = true := by decide +kernel
theorem g_L_goes_99_2 : ab_oks M_L_goes [(99, .iload 9, 2, 9, 0, 0, .null), (101, .iadd, 1, 0, 0, 0, .null)] = true := by decide +kernel
theorem ok_L_goes_102 : ab_ok M_L_goes (102, .iastore, 1, 0, 0, 0, .null) = true := by decide +kernel
theorem g_L_goes_103_3 : ab_oks M_L_goes [(103, .iconst 5, 1, 0, 0, 0, .int (nI (5))), (104, .aload 8, 2, 8, 0, 0, .null), (106, .iconst 5, 1, 0, 0, 0, .int (nI (5)))] = true := by decide +kernel
theorem ok_L_goes_107 : ab_ok M_L_goes (107, .iaload, 1, 0, 0, 0, .null) = true := by decide +kernel
theorem g_L_goes_108_6 : ab_oks M_L_goes [(108, .imul, 1, 0, 0, 0, .null), (109, .istore 10, 2, 10, 0, 0, .null), (111, .aload 6, 2, 6, 0, 0, .null), (113, .iload 10, 2, 10, 0, 0, .null), (115, .aload 8, 2, 8, 0, 0, .null), (117, .iconst 3, 1, 0, 0, 0, .int (nI (3)))] = true := by decide +kernel
theorem ok_L_goes_118 : ab_ok M_L_goes (118, .iaload, 1, 0, 0, 0, .null) = true := by decide +kernel
theorem ok_L_goes_119 : ab_ok M_L_goes (119, .iastore, 1, 0, 0, 0, .null) = true := by decide +kernel
theorem g_L_goes_120_5 : ab_oks M_L_goes [(120, .aload 6, 2, 6, 0, 0, .null), (122, .iload 10, 2, 10, 0, 0, .null), (124, .iconst 1, 1, 0, 0, 0, .int (nI (1))), (125, .iadd, 1, 0, 0, 0, .null), (126, .iload_n 2, 1, 2, 0, 0, .null)] = true := by decide +kernel
theorem ok_L_goes_127 : ab_ok M_L_goes (127, .iastore, 1, 0, 0, 0, .null) = true := by decide +kernel
theorem g_L_goes_128_5 : ab_oks M_L_goes [(128, .aload 6, 2, 6, 0, 0, .null), (130, .iload 10, 2, 10, 0, 0, .null), (132, .iconst 2, 1, 0, 0, 0, .int (nI (2))), (133, .iadd, 1, 0, 0, 0, .null), (134, .iload_n 0, 1, 0, 0, 0, .null)] = true := by decide +kernel
theorem ok_L_goes_135 : ab_ok M_L_goes (135, .iastore, 1, 0, 0, 0, .null) = true := by decide +kernel
theorem g_L_goes_136_5 : ab_oks M_L_goes [(136, .aload 6, 2, 6, 0, 0, .null), (138, .iload 10, 2, 10, 0, 0, .null), (140, .iconst 3, 1, 0, 0, 0, .int (nI (3))), (141, .iadd, 1, 0, 0, 0, .null), (142, .iload_n 1, 1, 1, 0, 0, .null)] = true := by decide +kernel
theorem ok_L_goes_143 : ab_ok M_L_goes (143, .iastore, 1, 0, 0, 0, .null) = true := by decide +kernel
theorem g_L_goes_144_5 : ab_oks M_L_goes [(144, .aload 6, 2, 6, 0, 0, .null), (146, .iload 10, 2, 10, 0, 0, .null), (148, .iconst 4, 1, 0, 0, 0, .int (nI (4))), (149, .iadd, 1, 0, 0, 0, .null), (150, .iload 9, 2, 9, 0, 0, .null)] = true := by decide +kernel
theorem ok_L_goes_152 : ab_ok M_L_goes (152, .iastore, 1, 0, 0, 0, .null) = true := by decide +kernel
theorem g_L_goes_153_3 : ab_oks M_L_goes [(153, .aload 8, 2, 8, 0, 0, .null), (155, .iconst 5, 1, 0, 0, 0, .int (nI (5))), (156, .dup2, 1, 0, 0, 0, .null)] = true := by decide +kernel
theorem ok_L_goes_157 : ab_ok M_L_goes (157, .iaload, 1, 0, 0, 0, .null) = true := by decide +kernel
theorem g_L_goes_158_2 : ab_oks M_L_goes [(158, .iconst 1, 1, 0, 0, 0, .int (nI (1))), (159, .iadd, 1, 0, 0, 0, .null)] = true := by decide +kernel
theorem ok_L_goes_160 : ab_ok M_L_goes (160, .iastore, 1, 0, 0, 0, .null) = true := by decide +kernel
theorem g_L_goes_161_1 : ab_oks M_L_goes [(161, .iload 9, 2, 9, 0, 0, .null)] = true := by decide +kernel
theorem dc_L_goes_163 : decode (AM.bytes M_L_goes) 163 = .ok (.ireturn, 1) := by decide +kernel
set_option maxRecDepth 100000 in
set_option maxHeartbeats 4000000 in
theorem s_LgoesA {E : AE} (d : Nat) (v : Nat) (k : Nat) (e : Nat) {ne : Nat}  {o0 a0 t0 p0 u0 l0 : List AC} {vo ls ln lb cr ca lo st cc : Nat → Int32} (hv : v < 4) (he : e < 2) (hne : cc 5 = nI ne) (hn12 : ne < 12) (hk : k < 2) : CT E M_L_goes (d + 2) [.int (nI (v)), .int (nI (k)), .int (nI (e)), .ref 16384, .ref 16388, .ref 16389, .ref 16390, .ref 16391, .ref 16392] (hp o0 a0 t0 p0 (la_ vo ls ln lb cr ca lo st cc) u0 l0) (.inl (some (.int (F_LgoesA v e vo ca st)))) (hp o0 a0 t0 p0 (la_ (F_LgoesA_vo v k e vo ca st) ls ln lb (F_LgoesA_cr k cr) (F_LgoesA_ca v e vo ca st) (F_LgoesA_lo v k e ne vo ca lo st cc) st (F_LgoesA_cc ne cc)) u0 l0) 0 0 := by
  refine CT.of (L := [some (.int (nI (v))), some (.int (nI (k))), some (.int (nI (e))), some (.ref 16384), some (.ref 16388), some (.ref 16389), some (.ref 16390), some (.ref 16391), some (.ref 16392), none, none]) rfl rfl ?_
  refine AR.run g_L_goes_0_5 7 [some (.int (nI (v))), some (.int (nI (k))), some (.int (nI (e))), some (.ref 16384), some (.ref 16388), some (.ref 16389), some (.ref 16390), some (.ref 16391), some (.ref 16392), none, none] [.ref 16391, .ref 16389, .ref 16384, .int (nI (e)), .int (nI (v))] _ [] rfl trivial ?_
  refine AR.callS1 [.int (nI (v)), .int (nI (e)), .ref 16384, .ref 16389, .ref 16391] [] lk_L_25 dc_L_goes_7 (s_Lway _ v e (by omega) (by omega)) (by first | rfl | (simp only [nI_add, pk_mul]; first | done | rfl)) rfl ?_
  refine AR.run g_L_goes_10_4 16 [some (.int (nI (v))), some (.int (nI (k))), some (.int (nI (e))), some (.ref 16384), some (.ref 16388), some (.ref 16389), some (.ref 16390), some (.ref 16391), some (.ref 16392), some (.int (F_Lway v e vo ca st)), none] [.int (nI (k)), .int (nI (4)), .ref 16388] _ [] rfl trivial ?_
  refine AR.geN (tgt := 30) (a := k) dc_L_goes_16 (by decide) (by first | rfl | (simp only [nI_add, pk_mul]; first | done | rfl)) (by omega) (fun c16_1 => ?_) (fun c16_1 => absurd c16_1 (fun q => q))
  refine AR.run g_L_goes_30_5 35 [some (.int (nI (v))), some (.int (nI (k))), some (.int (nI (e))), some (.ref 16384), some (.ref 16388), some (.ref 16389), some (.ref 16390), some (.ref 16391), some (.ref 16392), some (.int (F_Lway v e vo ca st)), none] [.int (nI (0)), .int (((nI (4)) * (nI (k))) + (nI (2))), .ref 16388] _ [] rfl trivial ?_
  refine AR.ast (n := 0) (e := ((4 * k) + 2)) (h1 := (hp o0 a0 t0 p0 (la_ vo ls ln lb (upd cr ((4 * k) + 2) (nI (0))) ca lo st cc) u0 l0)) ok_L_goes_35 (by first | rfl | (simp only [nI_add, pk_mul]; first | done | rfl)) rfl rfl (by omega) (by decide) rfl ?_
  refine AR.run g_L_goes_36_7 44 [some (.int (nI (v))), some (.int (nI (k))), some (.int (nI (e))), some (.ref 16384), some (.ref 16388), some (.ref 16389), some (.ref 16390), some (.ref 16391), some (.ref 16392), some (.int (F_Lway v e vo ca st)), none] [.int (nI (k)), .int (((nI (7)) * (nI (v))) + (nI (5))), .ref 16384] _ [] rfl trivial ?_
  refine AR.ast (n := 0) (e := ((7 * v) + 5)) (h1 := (hp o0 a0 t0 p0 (la_ (upd vo ((7 * v) + 5) (nI (k))) ls ln lb (upd cr ((4 * k) + 2) (nI (0))) ca lo st cc) u0 l0)) ok_L_goes_44 (by first | rfl | (simp only [nI_add, pk_mul]; first | done | rfl)) rfl rfl (by omega) (by decide) rfl ?_
  refine AR.run g_L_goes_45_7 55 [some (.int (nI (v))), some (.int (nI (k))), some (.int (nI (e))), some (.ref 16384), some (.ref 16388), some (.ref 16389), some (.ref 16390), some (.ref 16391), some (.ref 16392), some (.int (F_Lway v e vo ca st)), none] [.int (F_Lway v e vo ca st), .int (((nI (7)) * (nI (v))) + (nI (6))), .ref 16384] _ [] rfl trivial ?_
  refine AR.ast (n := 0) (e := ((7 * v) + 6)) (h1 := (hp o0 a0 t0 p0 (la_ (upd (upd vo ((7 * v) + 5) (nI (k))) ((7 * v) + 6) (F_Lway v e vo ca st)) ls ln lb (upd cr ((4 * k) + 2) (nI (0))) ca lo st cc) u0 l0)) ok_L_goes_55 (by first | rfl | (simp only [nI_add, pk_mul]; first | done | rfl)) rfl rfl (by omega) (by decide) rfl ?_
  refine AR.run g_L_goes_56_8 66 [some (.int (nI (v))), some (.int (nI (k))), some (.int (nI (e))), some (.ref 16384), some (.ref 16388), some (.ref 16389), some (.ref 16390), some (.ref 16391), some (.ref 16392), some (.int (F_Lway v e vo ca st)), none] [.int ((nI (7)) * (nI (v))), .ref 16384, .int ((nI (4)) * (nI (e))), .ref 16389] _ [] rfl trivial ?_
  refine AR.ald (n := 0) (e := (7 * v)) ok_L_goes_66 (by first | rfl | (simp only [nI_add, pk_mul]; first | done | rfl)) rfl (by omega) (by first | decide | omega) ?_
  refine AR.top (y := vo (7 * v)) (by show (upd (upd vo ((7 * v) + 5) (nI (k))) ((7 * v) + 6) (F_Lway v e vo ca st)) (7 * v) = _; rw [rn (by omega), rn (by omega)]) ?_
  refine AR.ast (n := 0) (e := (4 * e)) (h1 := (hp o0 a0 t0 p0 (la_ (upd (upd vo ((7 * v) + 5) (nI (k))) ((7 * v) + 6) (F_Lway v e vo ca st)) ls ln lb (upd cr ((4 * k) + 2) (nI (0))) (upd ca (4 * e) (vo (7 * v))) lo st cc) u0 l0)) ok_L_goes_67 (by first | rfl | (simp only [nI_add, pk_mul]; first | done | rfl)) rfl rfl (by omega) (by decide) rfl ?_
  refine AR.run g_L_goes_68_7 77 [some (.int (nI (v))), some (.int (nI (k))), some (.int (nI (e))), some (.ref 16384), some (.ref 16388), some (.ref 16389), some (.ref 16390), some (.ref 16391), some (.ref 16392), some (.int (F_Lway v e vo ca st)), none] [.int (F_Lway v e vo ca st), .int (((nI (4)) * (nI (e))) + (nI (1))), .ref 16389] _ [] rfl trivial ?_
  refine AR.ast (n := 0) (e := ((4 * e) + 1)) (h1 := (hp o0 a0 t0 p0 (la_ (upd (upd vo ((7 * v) + 5) (nI (k))) ((7 * v) + 6) (F_Lway v e vo ca st)) ls ln lb (upd cr ((4 * k) + 2) (nI (0))) (upd (upd ca (4 * e) (vo (7 * v))) ((4 * e) + 1) (F_Lway v e vo ca st)) lo st cc) u0 l0)) ok_L_goes_77 (by first | rfl | (simp only [nI_add, pk_mul]; first | done | rfl)) rfl rfl (by omega) (by decide) rfl ?_
  refine AR.run g_L_goes_78_7 86 [some (.int (nI (v))), some (.int (nI (k))), some (.int (nI (e))), some (.ref 16384), some (.ref 16388), some (.ref 16389), some (.ref 16390), some (.ref 16391), some (.ref 16392), some (.int (F_Lway v e vo ca st)), none] [.int (((nI (4)) * (nI (e))) + (nI (2))), .ref 16389, .int (((nI (4)) * (nI (e))) + (nI (2))), .ref 16389] _ [] rfl trivial ?_
  refine AR.ald (n := 0) (e := ((4 * e) + 2)) ok_L_goes_86 (by first | rfl | (simp only [nI_add, pk_mul]; first | done | rfl)) rfl (by omega) (by first | decide | omega) ?_
  refine AR.top (y := ca ((4 * e) + 2)) (by show (upd (upd ca (4 * e) (vo (7 * v))) ((4 * e) + 1) (F_Lway v e vo ca st)) ((4 * e) + 2) = _; rw [rn (by omega), rn (by omega)]) ?_
  refine AR.run g_L_goes_87_2 89 [some (.int (nI (v))), some (.int (nI (k))), some (.int (nI (e))), some (.ref 16384), some (.ref 16388), some (.ref 16389), some (.ref 16390), some (.ref 16391), some (.ref 16392), some (.int (F_Lway v e vo ca st)), none] [.int ((ca ((4 * e) + 2)) + (nI (1))), .int (((nI (4)) * (nI (e))) + (nI (2))), .ref 16389] _ [] rfl trivial ?_
  refine AR.ast (n := 0) (e := ((4 * e) + 2)) (h1 := (hp o0 a0 t0 p0 (la_ (upd (upd vo ((7 * v) + 5) (nI (k))) ((7 * v) + 6) (F_Lway v e vo ca st)) ls ln lb (upd cr ((4 * k) + 2) (nI (0))) (upd (upd (upd ca (4 * e) (vo (7 * v))) ((4 * e) + 1) (F_Lway v e vo ca st)) ((4 * e) + 2) ((ca ((4 * e) + 2)) + (nI (1)))) lo st cc) u0 l0)) ok_L_goes_89 (by first | rfl | (simp only [nI_add, pk_mul]; first | done | rfl)) rfl rfl (by omega) (by decide) rfl ?_
  refine AR.run g_L_goes_90_7 98 [some (.int (nI (v))), some (.int (nI (k))), some (.int (nI (e))), some (.ref 16384), some (.ref 16388), some (.ref 16389), some (.ref 16390), some (.ref 16391), some (.ref 16392), some (.int (F_Lway v e vo ca st)), none] [.int (((nI (4)) * (nI (e))) + (nI (3))), .ref 16389, .int (((nI (4)) * (nI (e))) + (nI (3))), .ref 16389] _ [] rfl trivial ?_
  refine AR.ald (n := 0) (e := ((4 * e) + 3)) ok_L_goes_98 (by first | rfl | (simp only [nI_add, pk_mul]; first | done | rfl)) rfl (by omega) (by first | decide | omega) ?_
  refine AR.top (y := ca ((4 * e) + 3)) (by show (upd (upd (upd ca (4 * e) (vo (7 * v))) ((4 * e) + 1) (F_Lway v e vo ca st)) ((4 * e) + 2) ((ca ((4 * e) + 2)) + (nI (1)))) ((4 * e) + 3) = _; rw [rn (by omega), rn (by omega), rn (by omega)]) ?_
  refine AR.run g_L_goes_99_2 102 [some (.int (nI (v))), some (.int (nI (k))), some (.int (nI (e))), some (.ref 16384), some (.ref 16388), some (.ref 16389), some (.ref 16390), some (.ref 16391), some (.ref 16392), some (.int (F_Lway v e vo ca st)), none] [.int ((ca ((4 * e) + 3)) + (F_Lway v e vo ca st)), .int (((nI (4)) * (nI (e))) + (nI (3))), .ref 16389] _ [] rfl trivial ?_
  refine AR.ast (n := 0) (e := ((4 * e) + 3)) (h1 := (hp o0 a0 t0 p0 (la_ (upd (upd vo ((7 * v) + 5) (nI (k))) ((7 * v) + 6) (F_Lway v e vo ca st)) ls ln lb (upd cr ((4 * k) + 2) (nI (0))) (upd (upd (upd (upd ca (4 * e) (vo (7 * v))) ((4 * e) + 1) (F_Lway v e vo ca st)) ((4 * e) + 2) ((ca ((4 * e) + 2)) + (nI (1)))) ((4 * e) + 3) ((ca ((4 * e) + 3)) + (F_Lway v e vo ca st))) lo st cc) u0 l0)) ok_L_goes_102 (by first | rfl | (simp only [nI_add, pk_mul]; first | done | rfl)) rfl rfl (by omega) (by decide) rfl ?_
  refine AR.run g_L_goes_103_3 107 [some (.int (nI (v))), some (.int (nI (k))), some (.int (nI (e))), some (.ref 16384), some (.ref 16388), some (.ref 16389), some (.ref 16390), some (.ref 16391), some (.ref 16392), some (.int (F_Lway v e vo ca st)), none] [.int (nI (5)), .ref 16392, .int (nI (5))] _ [] rfl trivial ?_
  refine AR.ald (n := 0) (e := 5) ok_L_goes_107 (by first | rfl | (simp only [nI_add, pk_mul]; first | done | rfl)) rfl (by omega) (by first | decide | omega) ?_
  refine AR.top hne ?_
  refine AR.run g_L_goes_108_6 118 [some (.int (nI (v))), some (.int (nI (k))), some (.int (nI (e))), some (.ref 16384), some (.ref 16388), some (.ref 16389), some (.ref 16390), some (.ref 16391), some (.ref 16392), some (.int (F_Lway v e vo ca st)), some (.int ((nI (5)) * (nI (ne))))] [.int (nI (3)), .ref 16392, .int ((nI (5)) * (nI (ne))), .ref 16390] _ [] rfl trivial ?_
  refine AR.ald (n := 0) (e := 3) ok_L_goes_118 (by first | rfl | (simp only [nI_add, pk_mul]; first | done | rfl)) rfl (by omega) (by first | decide | omega) ?_
  refine AR.ast (n := 0) (e := (5 * ne)) (h1 := (hp o0 a0 t0 p0 (la_ (upd (upd vo ((7 * v) + 5) (nI (k))) ((7 * v) + 6) (F_Lway v e vo ca st)) ls ln lb (upd cr ((4 * k) + 2) (nI (0))) (upd (upd (upd (upd ca (4 * e) (vo (7 * v))) ((4 * e) + 1) (F_Lway v e vo ca st)) ((4 * e) + 2) ((ca ((4 * e) + 2)) + (nI (1)))) ((4 * e) + 3) ((ca ((4 * e) + 3)) + (F_Lway v e vo ca st))) (upd lo (5 * ne) (cc 3)) st cc) u0 l0)) ok_L_goes_119 (by first | rfl | (simp only [nI_add, pk_mul]; first | done | rfl)) rfl rfl (by omega) (by decide) rfl ?_
  refine AR.run g_L_goes_120_5 127 [some (.int (nI (v))), some (.int (nI (k))), some (.int (nI (e))), some (.ref 16384), some (.ref 16388), some (.ref 16389), some (.ref 16390), some (.ref 16391), some (.ref 16392), some (.int (F_Lway v e vo ca st)), some (.int ((nI (5)) * (nI (ne))))] [.int (nI (e)), .int (((nI (5)) * (nI (ne))) + (nI (1))), .ref 16390] _ [] rfl trivial ?_
  refine AR.ast (n := 0) (e := ((5 * ne) + 1)) (h1 := (hp o0 a0 t0 p0 (la_ (upd (upd vo ((7 * v) + 5) (nI (k))) ((7 * v) + 6) (F_Lway v e vo ca st)) ls ln lb (upd cr ((4 * k) + 2) (nI (0))) (upd (upd (upd (upd ca (4 * e) (vo (7 * v))) ((4 * e) + 1) (F_Lway v e vo ca st)) ((4 * e) + 2) ((ca ((4 * e) + 2)) + (nI (1)))) ((4 * e) + 3) ((ca ((4 * e) + 3)) + (F_Lway v e vo ca st))) (upd (upd lo (5 * ne) (cc 3)) ((5 * ne) + 1) (nI (e))) st cc) u0 l0)) ok_L_goes_127 (by first | rfl | (simp only [nI_add, pk_mul]; first | done | rfl)) rfl rfl (by omega) (by decide) rfl ?_
  refine AR.run g_L_goes_128_5 135 [some (.int (nI (v))), some (.int (nI (k))), some (.int (nI (e))), some (.ref 16384), some (.ref 16388), some (.ref 16389), some (.ref 16390), some (.ref 16391), some (.ref 16392), some (.int (F_Lway v e vo ca st)), some (.int ((nI (5)) * (nI (ne))))] [.int (nI (v)), .int (((nI (5)) * (nI (ne))) + (nI (2))), .ref 16390] _ [] rfl trivial ?_
  refine AR.ast (n := 0) (e := ((5 * ne) + 2)) (h1 := (hp o0 a0 t0 p0 (la_ (upd (upd vo ((7 * v) + 5) (nI (k))) ((7 * v) + 6) (F_Lway v e vo ca st)) ls ln lb (upd cr ((4 * k) + 2) (nI (0))) (upd (upd (upd (upd ca (4 * e) (vo (7 * v))) ((4 * e) + 1) (F_Lway v e vo ca st)) ((4 * e) + 2) ((ca ((4 * e) + 2)) + (nI (1)))) ((4 * e) + 3) ((ca ((4 * e) + 3)) + (F_Lway v e vo ca st))) (upd (upd (upd lo (5 * ne) (cc 3)) ((5 * ne) + 1) (nI (e))) ((5 * ne) + 2) (nI (v))) st cc) u0 l0)) ok_L_goes_135 (by first | rfl | (simp only [nI_add, pk_mul]; first | done | rfl)) rfl rfl (by omega) (by decide) rfl ?_
  refine AR.run g_L_goes_136_5 143 [some (.int (nI (v))), some (.int (nI (k))), some (.int (nI (e))), some (.ref 16384), some (.ref 16388), some (.ref 16389), some (.ref 16390), some (.ref 16391), some (.ref 16392), some (.int (F_Lway v e vo ca st)), some (.int ((nI (5)) * (nI (ne))))] [.int (nI (k)), .int (((nI (5)) * (nI (ne))) + (nI (3))), .ref 16390] _ [] rfl trivial ?_
  refine AR.ast (n := 0) (e := ((5 * ne) + 3)) (h1 := (hp o0 a0 t0 p0 (la_ (upd (upd vo ((7 * v) + 5) (nI (k))) ((7 * v) + 6) (F_Lway v e vo ca st)) ls ln lb (upd cr ((4 * k) + 2) (nI (0))) (upd (upd (upd (upd ca (4 * e) (vo (7 * v))) ((4 * e) + 1) (F_Lway v e vo ca st)) ((4 * e) + 2) ((ca ((4 * e) + 2)) + (nI (1)))) ((4 * e) + 3) ((ca ((4 * e) + 3)) + (F_Lway v e vo ca st))) (upd (upd (upd (upd lo (5 * ne) (cc 3)) ((5 * ne) + 1) (nI (e))) ((5 * ne) + 2) (nI (v))) ((5 * ne) + 3) (nI (k))) st cc) u0 l0)) ok_L_goes_143 (by first | rfl | (simp only [nI_add, pk_mul]; first | done | rfl)) rfl rfl (by omega) (by decide) rfl ?_
  refine AR.run g_L_goes_144_5 152 [some (.int (nI (v))), some (.int (nI (k))), some (.int (nI (e))), some (.ref 16384), some (.ref 16388), some (.ref 16389), some (.ref 16390), some (.ref 16391), some (.ref 16392), some (.int (F_Lway v e vo ca st)), some (.int ((nI (5)) * (nI (ne))))] [.int (F_Lway v e vo ca st), .int (((nI (5)) * (nI (ne))) + (nI (4))), .ref 16390] _ [] rfl trivial ?_
  refine AR.ast (n := 0) (e := ((5 * ne) + 4)) (h1 := (hp o0 a0 t0 p0 (la_ (upd (upd vo ((7 * v) + 5) (nI (k))) ((7 * v) + 6) (F_Lway v e vo ca st)) ls ln lb (upd cr ((4 * k) + 2) (nI (0))) (upd (upd (upd (upd ca (4 * e) (vo (7 * v))) ((4 * e) + 1) (F_Lway v e vo ca st)) ((4 * e) + 2) ((ca ((4 * e) + 2)) + (nI (1)))) ((4 * e) + 3) ((ca ((4 * e) + 3)) + (F_Lway v e vo ca st))) (upd (upd (upd (upd (upd lo (5 * ne) (cc 3)) ((5 * ne) + 1) (nI (e))) ((5 * ne) + 2) (nI (v))) ((5 * ne) + 3) (nI (k))) ((5 * ne) + 4) (F_Lway v e vo ca st)) st cc) u0 l0)) ok_L_goes_152 (by first | rfl | (simp only [nI_add, pk_mul]; first | done | rfl)) rfl rfl (by omega) (by decide) rfl ?_
  refine AR.run g_L_goes_153_3 157 [some (.int (nI (v))), some (.int (nI (k))), some (.int (nI (e))), some (.ref 16384), some (.ref 16388), some (.ref 16389), some (.ref 16390), some (.ref 16391), some (.ref 16392), some (.int (F_Lway v e vo ca st)), some (.int ((nI (5)) * (nI (ne))))] [.int (nI (5)), .ref 16392, .int (nI (5)), .ref 16392] _ [] rfl trivial ?_
  refine AR.ald (n := 0) (e := 5) ok_L_goes_157 (by first | rfl | (simp only [nI_add, pk_mul]; first | done | rfl)) rfl (by omega) (by first | decide | omega) ?_
  refine AR.top hne ?_
  refine AR.run g_L_goes_158_2 160 [some (.int (nI (v))), some (.int (nI (k))), some (.int (nI (e))), some (.ref 16384), some (.ref 16388), some (.ref 16389), some (.ref 16390), some (.ref 16391), some (.ref 16392), some (.int (F_Lway v e vo ca st)), some (.int ((nI (5)) * (nI (ne))))] [.int ((nI (ne)) + (nI (1))), .int (nI (5)), .ref 16392] _ [] rfl trivial ?_
  refine AR.top (y := nI ((ne + 1))) (by first | rfl | (simp only [nI_add, pk_mul]; first | done | rfl)) ?_
  refine AR.ast (n := 0) (e := 5) (h1 := (hp o0 a0 t0 p0 (la_ (upd (upd vo ((7 * v) + 5) (nI (k))) ((7 * v) + 6) (F_Lway v e vo ca st)) ls ln lb (upd cr ((4 * k) + 2) (nI (0))) (upd (upd (upd (upd ca (4 * e) (vo (7 * v))) ((4 * e) + 1) (F_Lway v e vo ca st)) ((4 * e) + 2) ((ca ((4 * e) + 2)) + (nI (1)))) ((4 * e) + 3) ((ca ((4 * e) + 3)) + (F_Lway v e vo ca st))) (upd (upd (upd (upd (upd lo (5 * ne) (cc 3)) ((5 * ne) + 1) (nI (e))) ((5 * ne) + 2) (nI (v))) ((5 * ne) + 3) (nI (k))) ((5 * ne) + 4) (F_Lway v e vo ca st)) st (upd cc 5 (nI ((ne + 1))))) u0 l0)) ok_L_goes_160 (by first | rfl | (simp only [nI_add, pk_mul]; first | done | rfl)) rfl rfl (by omega) (by decide) rfl ?_
  refine AR.run g_L_goes_161_1 163 [some (.int (nI (v))), some (.int (nI (k))), some (.int (nI (e))), some (.ref 16384), some (.ref 16388), some (.ref 16389), some (.ref 16390), some (.ref 16391), some (.ref 16392), some (.int (F_Lway v e vo ca st)), some (.int ((nI (5)) * (nI (ne))))] [.int (F_Lway v e vo ca st)] _ [] rfl trivial ?_
  have e2_0 : F_LgoesA v e vo ca st = (F_Lway v e vo ca st) := by rw [F_LgoesA]
  have e2_1 : F_LgoesA_vo v k e vo ca st = (upd (upd vo ((7 * v) + 5) (nI (k))) ((7 * v) + 6) (F_Lway v e vo ca st)) := by rw [F_LgoesA_vo]
  have e2_2 : F_LgoesA_cr k cr = (upd cr ((4 * k) + 2) (nI (0))) := by rw [F_LgoesA_cr]
  have e2_3 : F_LgoesA_ca v e vo ca st = (upd (upd (upd (upd ca (4 * e) (vo (7 * v))) ((4 * e) + 1) (F_Lway v e vo ca st)) ((4 * e) + 2) ((ca ((4 * e) + 2)) + (nI (1)))) ((4 * e) + 3) ((ca ((4 * e) + 3)) + (F_Lway v e vo ca st))) := by rw [F_LgoesA_ca]
  have e2_4 : F_LgoesA_lo v k e ne vo ca lo st cc = (upd (upd (upd (upd (upd lo (5 * ne) (cc 3)) ((5 * ne) + 1) (nI (e))) ((5 * ne) + 2) (nI (v))) ((5 * ne) + 3) (nI (k))) ((5 * ne) + 4) (F_Lway v e vo ca st)) := by rw [F_LgoesA_lo]
  have e2_5 : F_LgoesA_cc ne cc = (upd cc 5 (nI ((ne + 1)))) := by rw [F_LgoesA_cc]
  exact AR.retI dc_L_goes_163 rfl e2_0.symm (by rw [e2_1, e2_2, e2_3, e2_4, e2_5])
def F_LgoesB (v : Nat) (e : Nat) (vo : Nat → Int32) (ca : Nat → Int32) (st : Nat → Int32) : Int32 := (F_Lway v e vo ca st)
def F_LgoesB_vo (v : Nat) (e : Nat) (vo : Nat → Int32) (ca : Nat → Int32) (st : Nat → Int32) : Nat → Int32 := (upd (upd vo ((7 * v) + 5) (-1)) ((7 * v) + 6) (F_Lway v e vo ca st))
def F_LgoesB_cr (p : Nat) (cr : Nat → Int32) : Nat → Int32 := (upd cr ((4 * p) + 2) (nI (0)))
def F_LgoesB_ca (v : Nat) (e : Nat) (vo : Nat → Int32) (ca : Nat → Int32) (st : Nat → Int32) : Nat → Int32 := (upd (upd (upd (upd ca (4 * e) (vo (7 * v))) ((4 * e) + 1) (F_Lway v e vo ca st)) ((4 * e) + 2) ((ca ((4 * e) + 2)) + (nI (1)))) ((4 * e) + 3) ((ca ((4 * e) + 3)) + (F_Lway v e vo ca st)))
def F_LgoesB_lo (v : Nat) (e : Nat) (ne : Nat) (vo : Nat → Int32) (ca : Nat → Int32) (lo : Nat → Int32) (st : Nat → Int32) (cc : Nat → Int32) : Nat → Int32 := (upd (upd (upd (upd (upd lo (5 * ne) (cc 3)) ((5 * ne) + 1) (nI (e))) ((5 * ne) + 2) (nI (v))) ((5 * ne) + 3) (-1)) ((5 * ne) + 4) (F_Lway v e vo ca st))
def F_LgoesB_cc (ne : Nat) (cc : Nat → Int32) : Nat → Int32 := (upd cc 5 (nI ((ne + 1))))
theorem g_L_goes_19_6 : ab_oks M_L_goes [(19, .aload_n 3, 1, 3, 0, 0, .null), (20, .bipush 7, 2, 0, 0, 0, .int (nI (7))), (22, .iload_n 0, 1, 0, 0, 0, .null), (23, .imul, 1, 0, 0, 0, .null), (24, .iconst 5, 1, 0, 0, 0, .int (nI (5))), (25, .iadd, 1, 0, 0, 0, .null)] = true := by decide +kernel
theorem ok_L_goes_26 : ab_ok M_L_goes (26, .iaload, 1, 0, 0, 0, .null) = true := by decide +kernel
theorem g_L_goes_27_5 : ab_oks M_L_goes [(27, .goto 4, 3, 31, 0, 0, .null), (31, .imul, 1, 0, 0, 0, .null), (32, .iconst 2, 1, 0, 0, 0, .int (nI (2))), (33, .iadd, 1, 0, 0, 0, .null), (34, .iconst 0, 1, 0, 0, 0, .int (nI (0)))] = true := by decide +kernel
set_option maxRecDepth 100000 in
set_option maxHeartbeats 4000000 in
theorem s_LgoesB {E : AE} (d : Nat) (v : Nat) (e : Nat) {ne : Nat} {p : Nat}  {o0 a0 t0 p0 u0 l0 : List AC} {vo ls ln lb cr ca lo st cc : Nat → Int32} (hv : v < 4) (he : e < 2) (hne : cc 5 = nI ne) (hn12 : ne < 12) (hpv : vo (7 * v + 5) = nI p) (hp2 : p < 2) : CT E M_L_goes (d + 2) [.int (nI (v)), .int (-1), .int (nI (e)), .ref 16384, .ref 16388, .ref 16389, .ref 16390, .ref 16391, .ref 16392] (hp o0 a0 t0 p0 (la_ vo ls ln lb cr ca lo st cc) u0 l0) (.inl (some (.int (F_LgoesB v e vo ca st)))) (hp o0 a0 t0 p0 (la_ (F_LgoesB_vo v e vo ca st) ls ln lb (F_LgoesB_cr p cr) (F_LgoesB_ca v e vo ca st) (F_LgoesB_lo v e ne vo ca lo st cc) st (F_LgoesB_cc ne cc)) u0 l0) 0 0 := by
  refine CT.of (L := [some (.int (nI (v))), some (.int (-1)), some (.int (nI (e))), some (.ref 16384), some (.ref 16388), some (.ref 16389), some (.ref 16390), some (.ref 16391), some (.ref 16392), none, none]) rfl rfl ?_
  refine AR.run g_L_goes_0_5 7 [some (.int (nI (v))), some (.int (-1)), some (.int (nI (e))), some (.ref 16384), some (.ref 16388), some (.ref 16389), some (.ref 16390), some (.ref 16391), some (.ref 16392), none, none] [.ref 16391, .ref 16389, .ref 16384, .int (nI (e)), .int (nI (v))] _ [] rfl trivial ?_
  refine AR.callS1 [.int (nI (v)), .int (nI (e)), .ref 16384, .ref 16389, .ref 16391] [] lk_L_25 dc_L_goes_7 (s_Lway _ v e (by omega) (by omega)) (by first | rfl | (simp only [nI_add, pk_mul]; first | done | rfl)) rfl ?_
  refine AR.run g_L_goes_10_4 16 [some (.int (nI (v))), some (.int (-1)), some (.int (nI (e))), some (.ref 16384), some (.ref 16388), some (.ref 16389), some (.ref 16390), some (.ref 16391), some (.ref 16392), some (.int (F_Lway v e vo ca st)), none] [.int (-1), .int (nI (4)), .ref 16388] _ [] rfl trivial ?_
  refine AR.ge (tgt := 30) dc_L_goes_16 (by decide) (fun c16_1 => absurd c16_1 (by decide)) (fun c16_1 => ?_)
  refine AR.run g_L_goes_19_6 26 [some (.int (nI (v))), some (.int (-1)), some (.int (nI (e))), some (.ref 16384), some (.ref 16388), some (.ref 16389), some (.ref 16390), some (.ref 16391), some (.ref 16392), some (.int (F_Lway v e vo ca st)), none] [.int (((nI (7)) * (nI (v))) + (nI (5))), .ref 16384, .int (nI (4)), .ref 16388] _ [] rfl trivial ?_
  refine AR.ald (n := 0) (e := ((7 * v) + 5)) ok_L_goes_26 (by first | rfl | (simp only [nI_add, pk_mul]; first | done | rfl)) rfl (by omega) (by first | decide | omega) ?_
  refine AR.top hpv ?_
  refine AR.run g_L_goes_27_5 35 [some (.int (nI (v))), some (.int (-1)), some (.int (nI (e))), some (.ref 16384), some (.ref 16388), some (.ref 16389), some (.ref 16390), some (.ref 16391), some (.ref 16392), some (.int (F_Lway v e vo ca st)), none] [.int (nI (0)), .int (((nI (4)) * (nI (p))) + (nI (2))), .ref 16388] _ [] rfl trivial ?_
  refine AR.ast (n := 0) (e := ((4 * p) + 2)) (h1 := (hp o0 a0 t0 p0 (la_ vo ls ln lb (upd cr ((4 * p) + 2) (nI (0))) ca lo st cc) u0 l0)) ok_L_goes_35 (by first | rfl | (simp only [nI_add, pk_mul]; first | done | rfl)) rfl rfl (by omega) (by decide) rfl ?_
  refine AR.run g_L_goes_36_7 44 [some (.int (nI (v))), some (.int (-1)), some (.int (nI (e))), some (.ref 16384), some (.ref 16388), some (.ref 16389), some (.ref 16390), some (.ref 16391), some (.ref 16392), some (.int (F_Lway v e vo ca st)), none] [.int (-1), .int (((nI (7)) * (nI (v))) + (nI (5))), .ref 16384] _ [] rfl trivial ?_
  refine AR.ast (n := 0) (e := ((7 * v) + 5)) (h1 := (hp o0 a0 t0 p0 (la_ (upd vo ((7 * v) + 5) (-1)) ls ln lb (upd cr ((4 * p) + 2) (nI (0))) ca lo st cc) u0 l0)) ok_L_goes_44 (by first | rfl | (simp only [nI_add, pk_mul]; first | done | rfl)) rfl rfl (by omega) (by decide) rfl ?_
  refine AR.run g_L_goes_45_7 55 [some (.int (nI (v))), some (.int (-1)), some (.int (nI (e))), some (.ref 16384), some (.ref 16388), some (.ref 16389), some (.ref 16390), some (.ref 16391), some (.ref 16392), some (.int (F_Lway v e vo ca st)), none] [.int (F_Lway v e vo ca st), .int (((nI (7)) * (nI (v))) + (nI (6))), .ref 16384] _ [] rfl trivial ?_
  refine AR.ast (n := 0) (e := ((7 * v) + 6)) (h1 := (hp o0 a0 t0 p0 (la_ (upd (upd vo ((7 * v) + 5) (-1)) ((7 * v) + 6) (F_Lway v e vo ca st)) ls ln lb (upd cr ((4 * p) + 2) (nI (0))) ca lo st cc) u0 l0)) ok_L_goes_55 (by first | rfl | (simp only [nI_add, pk_mul]; first | done | rfl)) rfl rfl (by omega) (by decide) rfl ?_
  refine AR.run g_L_goes_56_8 66 [some (.int (nI (v))), some (.int (-1)), some (.int (nI (e))), some (.ref 16384), some (.ref 16388), some (.ref 16389), some (.ref 16390), some (.ref 16391), some (.ref 16392), some (.int (F_Lway v e vo ca st)), none] [.int ((nI (7)) * (nI (v))), .ref 16384, .int ((nI (4)) * (nI (e))), .ref 16389] _ [] rfl trivial ?_
  refine AR.ald (n := 0) (e := (7 * v)) ok_L_goes_66 (by first | rfl | (simp only [nI_add, pk_mul]; first | done | rfl)) rfl (by omega) (by first | decide | omega) ?_
  refine AR.top (y := vo (7 * v)) (by show (upd (upd vo ((7 * v) + 5) (-1)) ((7 * v) + 6) (F_Lway v e vo ca st)) (7 * v) = _; rw [rn (by omega), rn (by omega)]) ?_
  refine AR.ast (n := 0) (e := (4 * e)) (h1 := (hp o0 a0 t0 p0 (la_ (upd (upd vo ((7 * v) + 5) (-1)) ((7 * v) + 6) (F_Lway v e vo ca st)) ls ln lb (upd cr ((4 * p) + 2) (nI (0))) (upd ca (4 * e) (vo (7 * v))) lo st cc) u0 l0)) ok_L_goes_67 (by first | rfl | (simp only [nI_add, pk_mul]; first | done | rfl)) rfl rfl (by omega) (by decide) rfl ?_
  refine AR.run g_L_goes_68_7 77 [some (.int (nI (v))), some (.int (-1)), some (.int (nI (e))), some (.ref 16384), some (.ref 16388), some (.ref 16389), some (.ref 16390), some (.ref 16391), some (.ref 16392), some (.int (F_Lway v e vo ca st)), none] [.int (F_Lway v e vo ca st), .int (((nI (4)) * (nI (e))) + (nI (1))), .ref 16389] _ [] rfl trivial ?_
  refine AR.ast (n := 0) (e := ((4 * e) + 1)) (h1 := (hp o0 a0 t0 p0 (la_ (upd (upd vo ((7 * v) + 5) (-1)) ((7 * v) + 6) (F_Lway v e vo ca st)) ls ln lb (upd cr ((4 * p) + 2) (nI (0))) (upd (upd ca (4 * e) (vo (7 * v))) ((4 * e) + 1) (F_Lway v e vo ca st)) lo st cc) u0 l0)) ok_L_goes_77 (by first | rfl | (simp only [nI_add, pk_mul]; first | done | rfl)) rfl rfl (by omega) (by decide) rfl ?_
  refine AR.run g_L_goes_78_7 86 [some (.int (nI (v))), some (.int (-1)), some (.int (nI (e))), some (.ref 16384), some (.ref 16388), some (.ref 16389), some (.ref 16390), some (.ref 16391), some (.ref 16392), some (.int (F_Lway v e vo ca st)), none] [.int (((nI (4)) * (nI (e))) + (nI (2))), .ref 16389, .int (((nI (4)) * (nI (e))) + (nI (2))), .ref 16389] _ [] rfl trivial ?_
  refine AR.ald (n := 0) (e := ((4 * e) + 2)) ok_L_goes_86 (by first | rfl | (simp only [nI_add, pk_mul]; first | done | rfl)) rfl (by omega) (by first | decide | omega) ?_
  refine AR.top (y := ca ((4 * e) + 2)) (by show (upd (upd ca (4 * e) (vo (7 * v))) ((4 * e) + 1) (F_Lway v e vo ca st)) ((4 * e) + 2) = _; rw [rn (by omega), rn (by omega)]) ?_
  refine AR.run g_L_goes_87_2 89 [some (.int (nI (v))), some (.int (-1)), some (.int (nI (e))), some (.ref 16384), some (.ref 16388), some (.ref 16389), some (.ref 16390), some (.ref 16391), some (.ref 16392), some (.int (F_Lway v e vo ca st)), none] [.int ((ca ((4 * e) + 2)) + (nI (1))), .int (((nI (4)) * (nI (e))) + (nI (2))), .ref 16389] _ [] rfl trivial ?_
  refine AR.ast (n := 0) (e := ((4 * e) + 2)) (h1 := (hp o0 a0 t0 p0 (la_ (upd (upd vo ((7 * v) + 5) (-1)) ((7 * v) + 6) (F_Lway v e vo ca st)) ls ln lb (upd cr ((4 * p) + 2) (nI (0))) (upd (upd (upd ca (4 * e) (vo (7 * v))) ((4 * e) + 1) (F_Lway v e vo ca st)) ((4 * e) + 2) ((ca ((4 * e) + 2)) + (nI (1)))) lo st cc) u0 l0)) ok_L_goes_89 (by first | rfl | (simp only [nI_add, pk_mul]; first | done | rfl)) rfl rfl (by omega) (by decide) rfl ?_
  refine AR.run g_L_goes_90_7 98 [some (.int (nI (v))), some (.int (-1)), some (.int (nI (e))), some (.ref 16384), some (.ref 16388), some (.ref 16389), some (.ref 16390), some (.ref 16391), some (.ref 16392), some (.int (F_Lway v e vo ca st)), none] [.int (((nI (4)) * (nI (e))) + (nI (3))), .ref 16389, .int (((nI (4)) * (nI (e))) + (nI (3))), .ref 16389] _ [] rfl trivial ?_
  refine AR.ald (n := 0) (e := ((4 * e) + 3)) ok_L_goes_98 (by first | rfl | (simp only [nI_add, pk_mul]; first | done | rfl)) rfl (by omega) (by first | decide | omega) ?_
  refine AR.top (y := ca ((4 * e) + 3)) (by show (upd (upd (upd ca (4 * e) (vo (7 * v))) ((4 * e) + 1) (F_Lway v e vo ca st)) ((4 * e) + 2) ((ca ((4 * e) + 2)) + (nI (1)))) ((4 * e) + 3) = _; rw [rn (by omega), rn (by omega), rn (by omega)]) ?_
  refine AR.run g_L_goes_99_2 102 [some (.int (nI (v))), some (.int (-1)), some (.int (nI (e))), some (.ref 16384), some (.ref 16388), some (.ref 16389), some (.ref 16390), some (.ref 16391), some (.ref 16392), some (.int (F_Lway v e vo ca st)), none] [.int ((ca ((4 * e) + 3)) + (F_Lway v e vo ca st)), .int (((nI (4)) * (nI (e))) + (nI (3))), .ref 16389] _ [] rfl trivial ?_
  refine AR.ast (n := 0) (e := ((4 * e) + 3)) (h1 := (hp o0 a0 t0 p0 (la_ (upd (upd vo ((7 * v) + 5) (-1)) ((7 * v) + 6) (F_Lway v e vo ca st)) ls ln lb (upd cr ((4 * p) + 2) (nI (0))) (upd (upd (upd (upd ca (4 * e) (vo (7 * v))) ((4 * e) + 1) (F_Lway v e vo ca st)) ((4 * e) + 2) ((ca ((4 * e) + 2)) + (nI (1)))) ((4 * e) + 3) ((ca ((4 * e) + 3)) + (F_Lway v e vo ca st))) lo st cc) u0 l0)) ok_L_goes_102 (by first | rfl | (simp only [nI_add, pk_mul]; first | done | rfl)) rfl rfl (by omega) (by decide) rfl ?_
  refine AR.run g_L_goes_103_3 107 [some (.int (nI (v))), some (.int (-1)), some (.int (nI (e))), some (.ref 16384), some (.ref 16388), some (.ref 16389), some (.ref 16390), some (.ref 16391), some (.ref 16392), some (.int (F_Lway v e vo ca st)), none] [.int (nI (5)), .ref 16392, .int (nI (5))] _ [] rfl trivial ?_
  refine AR.ald (n := 0) (e := 5) ok_L_goes_107 (by first | rfl | (simp only [nI_add, pk_mul]; first | done | rfl)) rfl (by omega) (by first | decide | omega) ?_
  refine AR.top hne ?_
  refine AR.run g_L_goes_108_6 118 [some (.int (nI (v))), some (.int (-1)), some (.int (nI (e))), some (.ref 16384), some (.ref 16388), some (.ref 16389), some (.ref 16390), some (.ref 16391), some (.ref 16392), some (.int (F_Lway v e vo ca st)), some (.int ((nI (5)) * (nI (ne))))] [.int (nI (3)), .ref 16392, .int ((nI (5)) * (nI (ne))), .ref 16390] _ [] rfl trivial ?_
  refine AR.ald (n := 0) (e := 3) ok_L_goes_118 (by first | rfl | (simp only [nI_add, pk_mul]; first | done | rfl)) rfl (by omega) (by first | decide | omega) ?_
  refine AR.ast (n := 0) (e := (5 * ne)) (h1 := (hp o0 a0 t0 p0 (la_ (upd (upd vo ((7 * v) + 5) (-1)) ((7 * v) + 6) (F_Lway v e vo ca st)) ls ln lb (upd cr ((4 * p) + 2) (nI (0))) (upd (upd (upd (upd ca (4 * e) (vo (7 * v))) ((4 * e) + 1) (F_Lway v e vo ca st)) ((4 * e) + 2) ((ca ((4 * e) + 2)) + (nI (1)))) ((4 * e) + 3) ((ca ((4 * e) + 3)) + (F_Lway v e vo ca st))) (upd lo (5 * ne) (cc 3)) st cc) u0 l0)) ok_L_goes_119 (by first | rfl | (simp only [nI_add, pk_mul]; first | done | rfl)) rfl rfl (by omega) (by decide) rfl ?_
  refine AR.run g_L_goes_120_5 127 [some (.int (nI (v))), some (.int (-1)), some (.int (nI (e))), some (.ref 16384), some (.ref 16388), some (.ref 16389), some (.ref 16390), some (.ref 16391), some (.ref 16392), some (.int (F_Lway v e vo ca st)), some (.int ((nI (5)) * (nI (ne))))] [.int (nI (e)), .int (((nI (5)) * (nI (ne))) + (nI (1))), .ref 16390] _ [] rfl trivial ?_
  refine AR.ast (n := 0) (e := ((5 * ne) + 1)) (h1 := (hp o0 a0 t0 p0 (la_ (upd (upd vo ((7 * v) + 5) (-1)) ((7 * v) + 6) (F_Lway v e vo ca st)) ls ln lb (upd cr ((4 * p) + 2) (nI (0))) (upd (upd (upd (upd ca (4 * e) (vo (7 * v))) ((4 * e) + 1) (F_Lway v e vo ca st)) ((4 * e) + 2) ((ca ((4 * e) + 2)) + (nI (1)))) ((4 * e) + 3) ((ca ((4 * e) + 3)) + (F_Lway v e vo ca st))) (upd (upd lo (5 * ne) (cc 3)) ((5 * ne) + 1) (nI (e))) st cc) u0 l0)) ok_L_goes_127 (by first | rfl | (simp only [nI_add, pk_mul]; first | done | rfl)) rfl rfl (by omega) (by decide) rfl ?_
  refine AR.run g_L_goes_128_5 135 [some (.int (nI (v))), some (.int (-1)), some (.int (nI (e))), some (.ref 16384), some (.ref 16388), some (.ref 16389), some (.ref 16390), some (.ref 16391), some (.ref 16392), some (.int (F_Lway v e vo ca st)), some (.int ((nI (5)) * (nI (ne))))] [.int (nI (v)), .int (((nI (5)) * (nI (ne))) + (nI (2))), .ref 16390] _ [] rfl trivial ?_
  refine AR.ast (n := 0) (e := ((5 * ne) + 2)) (h1 := (hp o0 a0 t0 p0 (la_ (upd (upd vo ((7 * v) + 5) (-1)) ((7 * v) + 6) (F_Lway v e vo ca st)) ls ln lb (upd cr ((4 * p) + 2) (nI (0))) (upd (upd (upd (upd ca (4 * e) (vo (7 * v))) ((4 * e) + 1) (F_Lway v e vo ca st)) ((4 * e) + 2) ((ca ((4 * e) + 2)) + (nI (1)))) ((4 * e) + 3) ((ca ((4 * e) + 3)) + (F_Lway v e vo ca st))) (upd (upd (upd lo (5 * ne) (cc 3)) ((5 * ne) + 1) (nI (e))) ((5 * ne) + 2) (nI (v))) st cc) u0 l0)) ok_L_goes_135 (by first | rfl | (simp only [nI_add, pk_mul]; first | done | rfl)) rfl rfl (by omega) (by decide) rfl ?_
  refine AR.run g_L_goes_136_5 143 [some (.int (nI (v))), some (.int (-1)), some (.int (nI (e))), some (.ref 16384), some (.ref 16388), some (.ref 16389), some (.ref 16390), some (.ref 16391), some (.ref 16392), some (.int (F_Lway v e vo ca st)), some (.int ((nI (5)) * (nI (ne))))] [.int (-1), .int (((nI (5)) * (nI (ne))) + (nI (3))), .ref 16390] _ [] rfl trivial ?_
  refine AR.ast (n := 0) (e := ((5 * ne) + 3)) (h1 := (hp o0 a0 t0 p0 (la_ (upd (upd vo ((7 * v) + 5) (-1)) ((7 * v) + 6) (F_Lway v e vo ca st)) ls ln lb (upd cr ((4 * p) + 2) (nI (0))) (upd (upd (upd (upd ca (4 * e) (vo (7 * v))) ((4 * e) + 1) (F_Lway v e vo ca st)) ((4 * e) + 2) ((ca ((4 * e) + 2)) + (nI (1)))) ((4 * e) + 3) ((ca ((4 * e) + 3)) + (F_Lway v e vo ca st))) (upd (upd (upd (upd lo (5 * ne) (cc 3)) ((5 * ne) + 1) (nI (e))) ((5 * ne) + 2) (nI (v))) ((5 * ne) + 3) (-1)) st cc) u0 l0)) ok_L_goes_143 (by first | rfl | (simp only [nI_add, pk_mul]; first | done | rfl)) rfl rfl (by omega) (by decide) rfl ?_
  refine AR.run g_L_goes_144_5 152 [some (.int (nI (v))), some (.int (-1)), some (.int (nI (e))), some (.ref 16384), some (.ref 16388), some (.ref 16389), some (.ref 16390), some (.ref 16391), some (.ref 16392), some (.int (F_Lway v e vo ca st)), some (.int ((nI (5)) * (nI (ne))))] [.int (F_Lway v e vo ca st), .int (((nI (5)) * (nI (ne))) + (nI (4))), .ref 16390] _ [] rfl trivial ?_
  refine AR.ast (n := 0) (e := ((5 * ne) + 4)) (h1 := (hp o0 a0 t0 p0 (la_ (upd (upd vo ((7 * v) + 5) (-1)) ((7 * v) + 6) (F_Lway v e vo ca st)) ls ln lb (upd cr ((4 * p) + 2) (nI (0))) (upd (upd (upd (upd ca (4 * e) (vo (7 * v))) ((4 * e) + 1) (F_Lway v e vo ca st)) ((4 * e) + 2) ((ca ((4 * e) + 2)) + (nI (1)))) ((4 * e) + 3) ((ca ((4 * e) + 3)) + (F_Lway v e vo ca st))) (upd (upd (upd (upd (upd lo (5 * ne) (cc 3)) ((5 * ne) + 1) (nI (e))) ((5 * ne) + 2) (nI (v))) ((5 * ne) + 3) (-1)) ((5 * ne) + 4) (F_Lway v e vo ca st)) st cc) u0 l0)) ok_L_goes_152 (by first | rfl | (simp only [nI_add, pk_mul]; first | done | rfl)) rfl rfl (by omega) (by decide) rfl ?_
  refine AR.run g_L_goes_153_3 157 [some (.int (nI (v))), some (.int (-1)), some (.int (nI (e))), some (.ref 16384), some (.ref 16388), some (.ref 16389), some (.ref 16390), some (.ref 16391), some (.ref 16392), some (.int (F_Lway v e vo ca st)), some (.int ((nI (5)) * (nI (ne))))] [.int (nI (5)), .ref 16392, .int (nI (5)), .ref 16392] _ [] rfl trivial ?_
  refine AR.ald (n := 0) (e := 5) ok_L_goes_157 (by first | rfl | (simp only [nI_add, pk_mul]; first | done | rfl)) rfl (by omega) (by first | decide | omega) ?_
  refine AR.top hne ?_
  refine AR.run g_L_goes_158_2 160 [some (.int (nI (v))), some (.int (-1)), some (.int (nI (e))), some (.ref 16384), some (.ref 16388), some (.ref 16389), some (.ref 16390), some (.ref 16391), some (.ref 16392), some (.int (F_Lway v e vo ca st)), some (.int ((nI (5)) * (nI (ne))))] [.int ((nI (ne)) + (nI (1))), .int (nI (5)), .ref 16392] _ [] rfl trivial ?_
  refine AR.top (y := nI ((ne + 1))) (by first | rfl | (simp only [nI_add, pk_mul]; first | done | rfl)) ?_
  refine AR.ast (n := 0) (e := 5) (h1 := (hp o0 a0 t0 p0 (la_ (upd (upd vo ((7 * v) + 5) (-1)) ((7 * v) + 6) (F_Lway v e vo ca st)) ls ln lb (upd cr ((4 * p) + 2) (nI (0))) (upd (upd (upd (upd ca (4 * e) (vo (7 * v))) ((4 * e) + 1) (F_Lway v e vo ca st)) ((4 * e) + 2) ((ca ((4 * e) + 2)) + (nI (1)))) ((4 * e) + 3) ((ca ((4 * e) + 3)) + (F_Lway v e vo ca st))) (upd (upd (upd (upd (upd lo (5 * ne) (cc 3)) ((5 * ne) + 1) (nI (e))) ((5 * ne) + 2) (nI (v))) ((5 * ne) + 3) (-1)) ((5 * ne) + 4) (F_Lway v e vo ca st)) st (upd cc 5 (nI ((ne + 1))))) u0 l0)) ok_L_goes_160 (by first | rfl | (simp only [nI_add, pk_mul]; first | done | rfl)) rfl rfl (by omega) (by decide) rfl ?_
  refine AR.run g_L_goes_161_1 163 [some (.int (nI (v))), some (.int (-1)), some (.int (nI (e))), some (.ref 16384), some (.ref 16388), some (.ref 16389), some (.ref 16390), some (.ref 16391), some (.ref 16392), some (.int (F_Lway v e vo ca st)), some (.int ((nI (5)) * (nI (ne))))] [.int (F_Lway v e vo ca st)] _ [] rfl trivial ?_
  have e2_0 : F_LgoesB v e vo ca st = (F_Lway v e vo ca st) := by rw [F_LgoesB]
  have e2_1 : F_LgoesB_vo v e vo ca st = (upd (upd vo ((7 * v) + 5) (-1)) ((7 * v) + 6) (F_Lway v e vo ca st)) := by rw [F_LgoesB_vo]
  have e2_2 : F_LgoesB_cr p cr = (upd cr ((4 * p) + 2) (nI (0))) := by rw [F_LgoesB_cr]
  have e2_3 : F_LgoesB_ca v e vo ca st = (upd (upd (upd (upd ca (4 * e) (vo (7 * v))) ((4 * e) + 1) (F_Lway v e vo ca st)) ((4 * e) + 2) ((ca ((4 * e) + 2)) + (nI (1)))) ((4 * e) + 3) ((ca ((4 * e) + 3)) + (F_Lway v e vo ca st))) := by rw [F_LgoesB_ca]
  have e2_4 : F_LgoesB_lo v e ne vo ca lo st cc = (upd (upd (upd (upd (upd lo (5 * ne) (cc 3)) ((5 * ne) + 1) (nI (e))) ((5 * ne) + 2) (nI (v))) ((5 * ne) + 3) (-1)) ((5 * ne) + 4) (F_Lway v e vo ca st)) := by rw [F_LgoesB_lo]
  have e2_5 : F_LgoesB_cc ne cc = (upd cc 5 (nI ((ne + 1)))) := by rw [F_LgoesB_cc]
  exact AR.retI dc_L_goes_163 rfl e2_0.symm (by rw [e2_1, e2_2, e2_3, e2_4, e2_5])
def B_LsameV_2 (vo1 : Nat → Int32) (j2 : Nat) (y2_tl0 : Nat → Int32) : (Nat → Int32) := (upd y2_tl0 j2 (vo1 j2))
def L_LsameV_2 (vo1 : Nat → Int32) (vo : Nat → Int32) : Nat → (Nat → Int32)
  | 0 => vo
  | j + 1 => B_LsameV_2 vo1 j (L_LsameV_2 vo1 vo  j)
def F_LsameV_vo (vo1 : Nat → Int32) (vo : Nat → Int32) : Nat → Int32 := (L_LsameV_2 vo1 vo 28)
theorem g_L_same_0_2 : ab_oks M_L_same [(0, .iconst 0, 1, 0, 0, 0, .int (nI (0))), (1, .istore_n 2, 1, 2, 0, 0, .null)] = true := by decide +kernel
theorem g_L_same_2_3 : ab_oks M_L_same [(2, .iload_n 2, 1, 2, 0, 0, .null), (3, .aload_n 1, 1, 1, 0, 0, .null), (4, .arraylength, 1, 0, 0, 0, .null)] = true := by decide +kernel
theorem dc_L_same_5 : decode (AM.bytes M_L_same) 5 = .ok (.if_icmp .ge 15, 3) := by decide +kernel
theorem g_L_same_8_4 : ab_oks M_L_same [(8, .aload_n 0, 1, 0, 0, 0, .null), (9, .iload_n 2, 1, 2, 0, 0, .null), (10, .aload_n 1, 1, 1, 0, 0, .null), (11, .iload_n 2, 1, 2, 0, 0, .null)] = true := by decide +kernel
theorem ok_L_same_12 : ab_ok M_L_same (12, .iaload, 1, 0, 0, 0, .null) = true := by decide +kernel
theorem ok_L_same_13 : ab_ok M_L_same (13, .iastore, 1, 0, 0, 0, .null) = true := by decide +kernel
theorem g_L_same_14_2 : ab_oks M_L_same [(14, .iinc 2 1, 3, 2, 0, 0, .int (nI (1))), (17, .goto (-15), 3, 2, 0, 0, .null)] = true := by decide +kernel
theorem dc_L_same_20 : decode (AM.bytes M_L_same) 20 = .ok (.return_, 1) := by decide +kernel
set_option maxRecDepth 100000 in
set_option maxHeartbeats 4000000 in
theorem s_LsameV {E : AE} (d : Nat)  {o0 a0 t0 p0 u0 : List AC} {vo1 ls1 ln1 lb cr1 ca1 lo st cc1 vo ls ln cr ca cc : Nat → Int32} : CT E M_L_same d [.ref 24576, .ref 16384] (hp o0 a0 t0 p0 (la_ vo1 ls1 ln1 lb cr1 ca1 lo st cc1) u0 (xs_ (co_ vo ls ln cr ca cc))) (.inl none) (hp o0 a0 t0 p0 (la_ vo1 ls1 ln1 lb cr1 ca1 lo st cc1) u0 (xs_ (co_ (F_LsameV_vo vo1 vo) ls ln cr ca cc))) 0 0 := by
  refine CT.of (L := [some (.ref 24576), some (.ref 16384), none]) rfl rfl ?_
  refine AR.run g_L_same_0_2 2 [some (.ref 24576), some (.ref 16384), some (.int (nI (0)))] [] _ [] rfl trivial ?_
  refine AR.cast (L' := [some (.ref 24576), some (.ref 16384), some (.int (nI (0)))]) (by first | rfl | (rw [L_LsameV_2])) rfl (by first | rfl | (rw [L_LsameV_2])) (AR.loopN 28 (fun j2 => [some (.ref 24576), some (.ref 16384), some (.int (nI (j2)))]) (fun j2 => (hp o0 a0 t0 p0 (la_ vo1 ls1 ln1 lb cr1 ca1 lo st cc1) u0 (xs_ (co_ (L_LsameV_2 vo1 vo j2) ls ln cr ca cc)))) (fun j2 => True) (fun j2 hj2 hI2 ih2 => ?_) (fun hI2 => ?_) 0 (by omega) (by first | trivial | omega))
  · refine AR.run g_L_same_2_3 5 [some (.ref 24576), some (.ref 16384), some (.int (nI (j2)))] [.int (nI (28)), .int (nI (j2))] _ [] rfl trivial ?_
    refine AR.ge2N (tgt := 20) (a := j2) (b := 28) dc_L_same_5 (by decide) (by first | rfl | (simp only [nI_add, pk_mul]; first | done | rfl)) (by first | rfl | (simp only [nI_add, pk_mul]; first | done | rfl)) (by omega) (by omega) (fun c5_1 => absurd c5_1 (by omega)) (fun c5_1 => ?_)
    refine AR.run g_L_same_8_4 12 [some (.ref 24576), some (.ref 16384), some (.int (nI (j2)))] [.int (nI (j2)), .ref 16384, .int (nI (j2)), .ref 24576] _ [] rfl trivial ?_
    refine AR.ald (n := 0) (e := j2) ok_L_same_12 (by first | rfl | (simp only [nI_add, pk_mul]; first | done | rfl)) rfl (by omega) (by first | decide | omega) ?_
    refine AR.ast (n := 0) (e := j2) (h1 := (hp o0 a0 t0 p0 (la_ vo1 ls1 ln1 lb cr1 ca1 lo st cc1) u0 (xs_ (co_ (upd (L_LsameV_2 vo1 vo j2) j2 (vo1 j2)) ls ln cr ca cc)))) ok_L_same_13 (by first | rfl | (simp only [nI_add, pk_mul]; first | done | rfl)) rfl rfl (by omega) (by decide) rfl ?_
    refine AR.run g_L_same_14_2 2 [some (.ref 24576), some (.ref 16384), some (.int ((nI (j2)) + (nI (1))))] [] _ [] rfl trivial ?_
    have e2 : L_LsameV_2 vo1 vo (j2 + 1) = (upd (L_LsameV_2 vo1 vo j2) j2 (vo1 j2)) := by rw [L_LsameV_2, B_LsameV_2]
    exact AR.cast (L' := [some (.ref 24576), some (.ref 16384), some (.int (nI (j2 + 1)))]) (by first | rfl | (rw [nI_add]; done) | (rw [nI_add]; rfl)) rfl (by rw [e2]) (ih2 (by first | trivial | omega))
  · refine AR.run g_L_same_2_3 5 [some (.ref 24576), some (.ref 16384), some (.int (nI (28)))] [.int (nI (28)), .int (nI (28))] _ [] rfl trivial ?_
    refine AR.ge2N (tgt := 20) (a := 28) (b := 28) dc_L_same_5 (by decide) (by first | rfl | (simp only [nI_add, pk_mul]; first | done | rfl)) (by first | rfl | (simp only [nI_add, pk_mul]; first | done | rfl)) (by omega) (by omega) (fun c5_3 => ?_) (fun c5_3 => absurd c5_3 (by omega))
    have e4_0 : F_LsameV_vo vo1 vo = (L_LsameV_2 vo1 vo 28) := by rw [F_LsameV_vo]
    exact AR.retV dc_L_same_20 rfl (by rw [e4_0])
def B_LsameS_2 (ls1 : Nat → Int32) (j2 : Nat) (y2_tl1 : Nat → Int32) : (Nat → Int32) := (upd y2_tl1 j2 (ls1 j2))
def L_LsameS_2 (ls1 : Nat → Int32) (ls : Nat → Int32) : Nat → (Nat → Int32)
  | 0 => ls
  | j + 1 => B_LsameS_2 ls1 j (L_LsameS_2 ls1 ls  j)
def F_LsameS_ls (ls1 : Nat → Int32) (ls : Nat → Int32) : Nat → Int32 := (L_LsameS_2 ls1 ls 32)
set_option maxRecDepth 100000 in
set_option maxHeartbeats 4000000 in
theorem s_LsameS {E : AE} (d : Nat)  {o0 a0 t0 p0 u0 : List AC} {vo1 ls1 ln1 lb cr1 ca1 lo st cc1 vo ls ln cr ca cc : Nat → Int32} : CT E M_L_same d [.ref 24577, .ref 16385] (hp o0 a0 t0 p0 (la_ vo1 ls1 ln1 lb cr1 ca1 lo st cc1) u0 (xs_ (co_ vo ls ln cr ca cc))) (.inl none) (hp o0 a0 t0 p0 (la_ vo1 ls1 ln1 lb cr1 ca1 lo st cc1) u0 (xs_ (co_ vo (F_LsameS_ls ls1 ls) ln cr ca cc))) 0 0 := by
  refine CT.of (L := [some (.ref 24577), some (.ref 16385), none]) rfl rfl ?_
  refine AR.run g_L_same_0_2 2 [some (.ref 24577), some (.ref 16385), some (.int (nI (0)))] [] _ [] rfl trivial ?_
  refine AR.cast (L' := [some (.ref 24577), some (.ref 16385), some (.int (nI (0)))]) (by first | rfl | (rw [L_LsameS_2])) rfl (by first | rfl | (rw [L_LsameS_2])) (AR.loopN 32 (fun j2 => [some (.ref 24577), some (.ref 16385), some (.int (nI (j2)))]) (fun j2 => (hp o0 a0 t0 p0 (la_ vo1 ls1 ln1 lb cr1 ca1 lo st cc1) u0 (xs_ (co_ vo (L_LsameS_2 ls1 ls j2) ln cr ca cc)))) (fun j2 => True) (fun j2 hj2 hI2 ih2 => ?_) (fun hI2 => ?_) 0 (by omega) (by first | trivial | omega))
  · refine AR.run g_L_same_2_3 5 [some (.ref 24577), some (.ref 16385), some (.int (nI (j2)))] [.int (nI (32)), .int (nI (j2))] _ [] rfl trivial ?_
    refine AR.ge2N (tgt := 20) (a := j2) (b := 32) dc_L_same_5 (by decide) (by first | rfl | (simp only [nI_add, pk_mul]; first | done | rfl)) (by first | rfl | (simp only [nI_add, pk_mul]; first | done | rfl)) (by omega) (by omega) (fun c5_1 => absurd c5_1 (by omega)) (fun c5_1 => ?_)
    refine AR.run g_L_same_8_4 12 [some (.ref 24577), some (.ref 16385), some (.int (nI (j2)))] [.int (nI (j2)), .ref 16385, .int (nI (j2)), .ref 24577] _ [] rfl trivial ?_
    refine AR.ald (n := 0) (e := j2) ok_L_same_12 (by first | rfl | (simp only [nI_add, pk_mul]; first | done | rfl)) rfl (by omega) (by first | decide | omega) ?_
    refine AR.ast (n := 0) (e := j2) (h1 := (hp o0 a0 t0 p0 (la_ vo1 ls1 ln1 lb cr1 ca1 lo st cc1) u0 (xs_ (co_ vo (upd (L_LsameS_2 ls1 ls j2) j2 (ls1 j2)) ln cr ca cc)))) ok_L_same_13 (by first | rfl | (simp only [nI_add, pk_mul]; first | done | rfl)) rfl rfl (by omega) (by decide) rfl ?_
    refine AR.run g_L_same_14_2 2 [some (.ref 24577), some (.ref 16385), some (.int ((nI (j2)) + (nI (1))))] [] _ [] rfl trivial ?_
    have e2 : L_LsameS_2 ls1 ls (j2 + 1) = (upd (L_LsameS_2 ls1 ls j2) j2 (ls1 j2)) := by rw [L_LsameS_2, B_LsameS_2]
    exact AR.cast (L' := [some (.ref 24577), some (.ref 16385), some (.int (nI (j2 + 1)))]) (by first | rfl | (rw [nI_add]; done) | (rw [nI_add]; rfl)) rfl (by rw [e2]) (ih2 (by first | trivial | omega))
  · refine AR.run g_L_same_2_3 5 [some (.ref 24577), some (.ref 16385), some (.int (nI (32)))] [.int (nI (32)), .int (nI (32))] _ [] rfl trivial ?_
    refine AR.ge2N (tgt := 20) (a := 32) (b := 32) dc_L_same_5 (by decide) (by first | rfl | (simp only [nI_add, pk_mul]; first | done | rfl)) (by first | rfl | (simp only [nI_add, pk_mul]; first | done | rfl)) (by omega) (by omega) (fun c5_3 => ?_) (fun c5_3 => absurd c5_3 (by omega))
    have e4_0 : F_LsameS_ls ls1 ls = (L_LsameS_2 ls1 ls 32) := by rw [F_LsameS_ls]
    exact AR.retV dc_L_same_20 rfl (by rw [e4_0])
def B_LsameN_2 (ln1 : Nat → Int32) (j2 : Nat) (y2_tl2 : Nat → Int32) : (Nat → Int32) := (upd y2_tl2 j2 (ln1 j2))
def L_LsameN_2 (ln1 : Nat → Int32) (ln : Nat → Int32) : Nat → (Nat → Int32)
  | 0 => ln
  | j + 1 => B_LsameN_2 ln1 j (L_LsameN_2 ln1 ln  j)
def F_LsameN_ln (ln1 : Nat → Int32) (ln : Nat → Int32) : Nat → Int32 := (L_LsameN_2 ln1 ln 32)
set_option maxRecDepth 100000 in
set_option maxHeartbeats 4000000 in
theorem s_LsameN {E : AE} (d : Nat)  {o0 a0 t0 p0 u0 : List AC} {vo1 ls1 ln1 lb cr1 ca1 lo st cc1 vo ls ln cr ca cc : Nat → Int32} : CT E M_L_same d [.ref 24578, .ref 16386] (hp o0 a0 t0 p0 (la_ vo1 ls1 ln1 lb cr1 ca1 lo st cc1) u0 (xs_ (co_ vo ls ln cr ca cc))) (.inl none) (hp o0 a0 t0 p0 (la_ vo1 ls1 ln1 lb cr1 ca1 lo st cc1) u0 (xs_ (co_ vo ls (F_LsameN_ln ln1 ln) cr ca cc))) 0 0 := by
  refine CT.of (L := [some (.ref 24578), some (.ref 16386), none]) rfl rfl ?_
  refine AR.run g_L_same_0_2 2 [some (.ref 24578), some (.ref 16386), some (.int (nI (0)))] [] _ [] rfl trivial ?_
  refine AR.cast (L' := [some (.ref 24578), some (.ref 16386), some (.int (nI (0)))]) (by first | rfl | (rw [L_LsameN_2])) rfl (by first | rfl | (rw [L_LsameN_2])) (AR.loopN 32 (fun j2 => [some (.ref 24578), some (.ref 16386), some (.int (nI (j2)))]) (fun j2 => (hp o0 a0 t0 p0 (la_ vo1 ls1 ln1 lb cr1 ca1 lo st cc1) u0 (xs_ (co_ vo ls (L_LsameN_2 ln1 ln j2) cr ca cc)))) (fun j2 => True) (fun j2 hj2 hI2 ih2 => ?_) (fun hI2 => ?_) 0 (by omega) (by first | trivial | omega))
  · refine AR.run g_L_same_2_3 5 [some (.ref 24578), some (.ref 16386), some (.int (nI (j2)))] [.int (nI (32)), .int (nI (j2))] _ [] rfl trivial ?_
    refine AR.ge2N (tgt := 20) (a := j2) (b := 32) dc_L_same_5 (by decide) (by first | rfl | (simp only [nI_add, pk_mul]; first | done | rfl)) (by first | rfl | (simp only [nI_add, pk_mul]; first | done | rfl)) (by omega) (by omega) (fun c5_1 => absurd c5_1 (by omega)) (fun c5_1 => ?_)
    refine AR.run g_L_same_8_4 12 [some (.ref 24578), some (.ref 16386), some (.int (nI (j2)))] [.int (nI (j2)), .ref 16386, .int (nI (j2)), .ref 24578] _ [] rfl trivial ?_
    refine AR.ald (n := 0) (e := j2) ok_L_same_12 (by first | rfl | (simp only [nI_add, pk_mul]; first | done | rfl)) rfl (by omega) (by first | decide | omega) ?_
    refine AR.ast (n := 0) (e := j2) (h1 := (hp o0 a0 t0 p0 (la_ vo1 ls1 ln1 lb cr1 ca1 lo st cc1) u0 (xs_ (co_ vo ls (upd (L_LsameN_2 ln1 ln j2) j2 (ln1 j2)) cr ca cc)))) ok_L_same_13 (by first | rfl | (simp only [nI_add, pk_mul]; first | done | rfl)) rfl rfl (by omega) (by decide) rfl ?_
    refine AR.run g_L_same_14_2 2 [some (.ref 24578), some (.ref 16386), some (.int ((nI (j2)) + (nI (1))))] [] _ [] rfl trivial ?_
    have e2 : L_LsameN_2 ln1 ln (j2 + 1) = (upd (L_LsameN_2 ln1 ln j2) j2 (ln1 j2)) := by rw [L_LsameN_2, B_LsameN_2]
    exact AR.cast (L' := [some (.ref 24578), some (.ref 16386), some (.int (nI (j2 + 1)))]) (by first | rfl | (rw [nI_add]; done) | (rw [nI_add]; rfl)) rfl (by rw [e2]) (ih2 (by first | trivial | omega))
  · refine AR.run g_L_same_2_3 5 [some (.ref 24578), some (.ref 16386), some (.int (nI (32)))] [.int (nI (32)), .int (nI (32))] _ [] rfl trivial ?_
    refine AR.ge2N (tgt := 20) (a := 32) (b := 32) dc_L_same_5 (by decide) (by first | rfl | (simp only [nI_add, pk_mul]; first | done | rfl)) (by first | rfl | (simp only [nI_add, pk_mul]; first | done | rfl)) (by omega) (by omega) (fun c5_3 => ?_) (fun c5_3 => absurd c5_3 (by omega))
    have e4_0 : F_LsameN_ln ln1 ln = (L_LsameN_2 ln1 ln 32) := by rw [F_LsameN_ln]
    exact AR.retV dc_L_same_20 rfl (by rw [e4_0])
def B_LsameR_2 (cr1 : Nat → Int32) (j2 : Nat) (y2_tl3 : Nat → Int32) : (Nat → Int32) := (upd y2_tl3 j2 (cr1 j2))
def L_LsameR_2 (cr1 : Nat → Int32) (cr : Nat → Int32) : Nat → (Nat → Int32)
  | 0 => cr
  | j + 1 => B_LsameR_2 cr1 j (L_LsameR_2 cr1 cr  j)
def F_LsameR_cr (cr1 : Nat → Int32) (cr : Nat → Int32) : Nat → Int32 := (L_LsameR_2 cr1 cr 8)
set_option maxRecDepth 100000 in
set_option maxHeartbeats 4000000 in
theorem s_LsameR {E : AE} (d : Nat)  {o0 a0 t0 p0 u0 : List AC} {vo1 ls1 ln1 lb cr1 ca1 lo st cc1 vo ls ln cr ca cc : Nat → Int32} : CT E M_L_same d [.ref 24579, .ref 16388] (hp o0 a0 t0 p0 (la_ vo1 ls1 ln1 lb cr1 ca1 lo st cc1) u0 (xs_ (co_ vo ls ln cr ca cc))) (.inl none) (hp o0 a0 t0 p0 (la_ vo1 ls1 ln1 lb cr1 ca1 lo st cc1) u0 (xs_ (co_ vo ls ln (F_LsameR_cr cr1 cr) ca cc))) 0 0 := by
  refine CT.of (L := [some (.ref 24579), some (.ref 16388), none]) rfl rfl ?_
  refine AR.run g_L_same_0_2 2 [some (.ref 24579), some (.ref 16388), some (.int (nI (0)))] [] _ [] rfl trivial ?_
  refine AR.cast (L' := [some (.ref 24579), some (.ref 16388), some (.int (nI (0)))]) (by first | rfl | (rw [L_LsameR_2])) rfl (by first | rfl | (rw [L_LsameR_2])) (AR.loopN 8 (fun j2 => [some (.ref 24579), some (.ref 16388), some (.int (nI (j2)))]) (fun j2 => (hp o0 a0 t0 p0 (la_ vo1 ls1 ln1 lb cr1 ca1 lo st cc1) u0 (xs_ (co_ vo ls ln (L_LsameR_2 cr1 cr j2) ca cc)))) (fun j2 => True) (fun j2 hj2 hI2 ih2 => ?_) (fun hI2 => ?_) 0 (by omega) (by first | trivial | omega))
  · refine AR.run g_L_same_2_3 5 [some (.ref 24579), some (.ref 16388), some (.int (nI (j2)))] [.int (nI (8)), .int (nI (j2))] _ [] rfl trivial ?_
    refine AR.ge2N (tgt := 20) (a := j2) (b := 8) dc_L_same_5 (by decide) (by first | rfl | (simp only [nI_add, pk_mul]; first | done | rfl)) (by first | rfl | (simp only [nI_add, pk_mul]; first | done | rfl)) (by omega) (by omega) (fun c5_1 => absurd c5_1 (by omega)) (fun c5_1 => ?_)
    refine AR.run g_L_same_8_4 12 [some (.ref 24579), some (.ref 16388), some (.int (nI (j2)))] [.int (nI (j2)), .ref 16388, .int (nI (j2)), .ref 24579] _ [] rfl trivial ?_
    refine AR.ald (n := 0) (e := j2) ok_L_same_12 (by first | rfl | (simp only [nI_add, pk_mul]; first | done | rfl)) rfl (by omega) (by first | decide | omega) ?_
    refine AR.ast (n := 0) (e := j2) (h1 := (hp o0 a0 t0 p0 (la_ vo1 ls1 ln1 lb cr1 ca1 lo st cc1) u0 (xs_ (co_ vo ls ln (upd (L_LsameR_2 cr1 cr j2) j2 (cr1 j2)) ca cc)))) ok_L_same_13 (by first | rfl | (simp only [nI_add, pk_mul]; first | done | rfl)) rfl rfl (by omega) (by decide) rfl ?_
    refine AR.run g_L_same_14_2 2 [some (.ref 24579), some (.ref 16388), some (.int ((nI (j2)) + (nI (1))))] [] _ [] rfl trivial ?_
    have e2 : L_LsameR_2 cr1 cr (j2 + 1) = (upd (L_LsameR_2 cr1 cr j2) j2 (cr1 j2)) := by rw [L_LsameR_2, B_LsameR_2]
    exact AR.cast (L' := [some (.ref 24579), some (.ref 16388), some (.int (nI (j2 + 1)))]) (by first | rfl | (rw [nI_add]; done) | (rw [nI_add]; rfl)) rfl (by rw [e2]) (ih2 (by first | trivial | omega))
  · refine AR.run g_L_same_2_3 5 [some (.ref 24579), some (.ref 16388), some (.int (nI (8)))] [.int (nI (8)), .int (nI (8))] _ [] rfl trivial ?_
    refine AR.ge2N (tgt := 20) (a := 8) (b := 8) dc_L_same_5 (by decide) (by first | rfl | (simp only [nI_add, pk_mul]; first | done | rfl)) (by first | rfl | (simp only [nI_add, pk_mul]; first | done | rfl)) (by omega) (by omega) (fun c5_3 => ?_) (fun c5_3 => absurd c5_3 (by omega))
    have e4_0 : F_LsameR_cr cr1 cr = (L_LsameR_2 cr1 cr 8) := by rw [F_LsameR_cr]
    exact AR.retV dc_L_same_20 rfl (by rw [e4_0])
def B_LsameA_2 (ca1 : Nat → Int32) (j2 : Nat) (y2_tl4 : Nat → Int32) : (Nat → Int32) := (upd y2_tl4 j2 (ca1 j2))
def L_LsameA_2 (ca1 : Nat → Int32) (ca : Nat → Int32) : Nat → (Nat → Int32)
  | 0 => ca
  | j + 1 => B_LsameA_2 ca1 j (L_LsameA_2 ca1 ca  j)
def F_LsameA_ca (ca1 : Nat → Int32) (ca : Nat → Int32) : Nat → Int32 := (L_LsameA_2 ca1 ca 8)
set_option maxRecDepth 100000 in
set_option maxHeartbeats 4000000 in
theorem s_LsameA {E : AE} (d : Nat)  {o0 a0 t0 p0 u0 : List AC} {vo1 ls1 ln1 lb cr1 ca1 lo st cc1 vo ls ln cr ca cc : Nat → Int32} : CT E M_L_same d [.ref 24580, .ref 16389] (hp o0 a0 t0 p0 (la_ vo1 ls1 ln1 lb cr1 ca1 lo st cc1) u0 (xs_ (co_ vo ls ln cr ca cc))) (.inl none) (hp o0 a0 t0 p0 (la_ vo1 ls1 ln1 lb cr1 ca1 lo st cc1) u0 (xs_ (co_ vo ls ln cr (F_LsameA_ca ca1 ca) cc))) 0 0 := by
  refine CT.of (L := [some (.ref 24580), some (.ref 16389), none]) rfl rfl ?_
  refine AR.run g_L_same_0_2 2 [some (.ref 24580), some (.ref 16389), some (.int (nI (0)))] [] _ [] rfl trivial ?_
  refine AR.cast (L' := [some (.ref 24580), some (.ref 16389), some (.int (nI (0)))]) (by first | rfl | (rw [L_LsameA_2])) rfl (by first | rfl | (rw [L_LsameA_2])) (AR.loopN 8 (fun j2 => [some (.ref 24580), some (.ref 16389), some (.int (nI (j2)))]) (fun j2 => (hp o0 a0 t0 p0 (la_ vo1 ls1 ln1 lb cr1 ca1 lo st cc1) u0 (xs_ (co_ vo ls ln cr (L_LsameA_2 ca1 ca j2) cc)))) (fun j2 => True) (fun j2 hj2 hI2 ih2 => ?_) (fun hI2 => ?_) 0 (by omega) (by first | trivial | omega))
  · refine AR.run g_L_same_2_3 5 [some (.ref 24580), some (.ref 16389), some (.int (nI (j2)))] [.int (nI (8)), .int (nI (j2))] _ [] rfl trivial ?_
    refine AR.ge2N (tgt := 20) (a := j2) (b := 8) dc_L_same_5 (by decide) (by first | rfl | (simp only [nI_add, pk_mul]; first | done | rfl)) (by first | rfl | (simp only [nI_add, pk_mul]; first | done | rfl)) (by omega) (by omega) (fun c5_1 => absurd c5_1 (by omega)) (fun c5_1 => ?_)
    refine AR.run g_L_same_8_4 12 [some (.ref 24580), some (.ref 16389), some (.int (nI (j2)))] [.int (nI (j2)), .ref 16389, .int (nI (j2)), .ref 24580] _ [] rfl trivial ?_
    refine AR.ald (n := 0) (e := j2) ok_L_same_12 (by first | rfl | (simp only [nI_add, pk_mul]; first | done | rfl)) rfl (by omega) (by first | decide | omega) ?_
    refine AR.ast (n := 0) (e := j2) (h1 := (hp o0 a0 t0 p0 (la_ vo1 ls1 ln1 lb cr1 ca1 lo st cc1) u0 (xs_ (co_ vo ls ln cr (upd (L_LsameA_2 ca1 ca j2) j2 (ca1 j2)) cc)))) ok_L_same_13 (by first | rfl | (simp only [nI_add, pk_mul]; first | done | rfl)) rfl rfl (by omega) (by decide) rfl ?_
    refine AR.run g_L_same_14_2 2 [some (.ref 24580), some (.ref 16389), some (.int ((nI (j2)) + (nI (1))))] [] _ [] rfl trivial ?_
    have e2 : L_LsameA_2 ca1 ca (j2 + 1) = (upd (L_LsameA_2 ca1 ca j2) j2 (ca1 j2)) := by rw [L_LsameA_2, B_LsameA_2]
    exact AR.cast (L' := [some (.ref 24580), some (.ref 16389), some (.int (nI (j2 + 1)))]) (by first | rfl | (rw [nI_add]; done) | (rw [nI_add]; rfl)) rfl (by rw [e2]) (ih2 (by first | trivial | omega))
  · refine AR.run g_L_same_2_3 5 [some (.ref 24580), some (.ref 16389), some (.int (nI (8)))] [.int (nI (8)), .int (nI (8))] _ [] rfl trivial ?_
    refine AR.ge2N (tgt := 20) (a := 8) (b := 8) dc_L_same_5 (by decide) (by first | rfl | (simp only [nI_add, pk_mul]; first | done | rfl)) (by first | rfl | (simp only [nI_add, pk_mul]; first | done | rfl)) (by omega) (by omega) (fun c5_3 => ?_) (fun c5_3 => absurd c5_3 (by omega))
    have e4_0 : F_LsameA_ca ca1 ca = (L_LsameA_2 ca1 ca 8) := by rw [F_LsameA_ca]
    exact AR.retV dc_L_same_20 rfl (by rw [e4_0])
def B_LsameC_2 (cc1 : Nat → Int32) (j2 : Nat) (y2_tl5 : Nat → Int32) : (Nat → Int32) := (upd y2_tl5 j2 (cc1 j2))
def L_LsameC_2 (cc1 : Nat → Int32) (cc : Nat → Int32) : Nat → (Nat → Int32)
  | 0 => cc
  | j + 1 => B_LsameC_2 cc1 j (L_LsameC_2 cc1 cc  j)
def F_LsameC_cc (cc1 : Nat → Int32) (cc : Nat → Int32) : Nat → Int32 := (L_LsameC_2 cc1 cc 7)
set_option maxRecDepth 100000 in
set_option maxHeartbeats 4000000 in
theorem s_LsameC {E : AE} (d : Nat)  {o0 a0 t0 p0 u0 : List AC} {vo1 ls1 ln1 lb cr1 ca1 lo st cc1 vo ls ln cr ca cc : Nat → Int32} : CT E M_L_same d [.ref 24581, .ref 16392] (hp o0 a0 t0 p0 (la_ vo1 ls1 ln1 lb cr1 ca1 lo st cc1) u0 (xs_ (co_ vo ls ln cr ca cc))) (.inl none) (hp o0 a0 t0 p0 (la_ vo1 ls1 ln1 lb cr1 ca1 lo st cc1) u0 (xs_ (co_ vo ls ln cr ca (F_LsameC_cc cc1 cc)))) 0 0 := by
  refine CT.of (L := [some (.ref 24581), some (.ref 16392), none]) rfl rfl ?_
  refine AR.run g_L_same_0_2 2 [some (.ref 24581), some (.ref 16392), some (.int (nI (0)))] [] _ [] rfl trivial ?_
  refine AR.cast (L' := [some (.ref 24581), some (.ref 16392), some (.int (nI (0)))]) (by first | rfl | (rw [L_LsameC_2])) rfl (by first | rfl | (rw [L_LsameC_2])) (AR.loopN 7 (fun j2 => [some (.ref 24581), some (.ref 16392), some (.int (nI (j2)))]) (fun j2 => (hp o0 a0 t0 p0 (la_ vo1 ls1 ln1 lb cr1 ca1 lo st cc1) u0 (xs_ (co_ vo ls ln cr ca (L_LsameC_2 cc1 cc j2))))) (fun j2 => True) (fun j2 hj2 hI2 ih2 => ?_) (fun hI2 => ?_) 0 (by omega) (by first | trivial | omega))
  · refine AR.run g_L_same_2_3 5 [some (.ref 24581), some (.ref 16392), some (.int (nI (j2)))] [.int (nI (7)), .int (nI (j2))] _ [] rfl trivial ?_
    refine AR.ge2N (tgt := 20) (a := j2) (b := 7) dc_L_same_5 (by decide) (by first | rfl | (simp only [nI_add, pk_mul]; first | done | rfl)) (by first | rfl | (simp only [nI_add, pk_mul]; first | done | rfl)) (by omega) (by omega) (fun c5_1 => absurd c5_1 (by omega)) (fun c5_1 => ?_)
    refine AR.run g_L_same_8_4 12 [some (.ref 24581), some (.ref 16392), some (.int (nI (j2)))] [.int (nI (j2)), .ref 16392, .int (nI (j2)), .ref 24581] _ [] rfl trivial ?_
    refine AR.ald (n := 0) (e := j2) ok_L_same_12 (by first | rfl | (simp only [nI_add, pk_mul]; first | done | rfl)) rfl (by omega) (by first | decide | omega) ?_
    refine AR.ast (n := 0) (e := j2) (h1 := (hp o0 a0 t0 p0 (la_ vo1 ls1 ln1 lb cr1 ca1 lo st cc1) u0 (xs_ (co_ vo ls ln cr ca (upd (L_LsameC_2 cc1 cc j2) j2 (cc1 j2)))))) ok_L_same_13 (by first | rfl | (simp only [nI_add, pk_mul]; first | done | rfl)) rfl rfl (by omega) (by decide) rfl ?_
    refine AR.run g_L_same_14_2 2 [some (.ref 24581), some (.ref 16392), some (.int ((nI (j2)) + (nI (1))))] [] _ [] rfl trivial ?_
    have e2 : L_LsameC_2 cc1 cc (j2 + 1) = (upd (L_LsameC_2 cc1 cc j2) j2 (cc1 j2)) := by rw [L_LsameC_2, B_LsameC_2]
    exact AR.cast (L' := [some (.ref 24581), some (.ref 16392), some (.int (nI (j2 + 1)))]) (by first | rfl | (rw [nI_add]; done) | (rw [nI_add]; rfl)) rfl (by rw [e2]) (ih2 (by first | trivial | omega))
  · refine AR.run g_L_same_2_3 5 [some (.ref 24581), some (.ref 16392), some (.int (nI (7)))] [.int (nI (7)), .int (nI (7))] _ [] rfl trivial ?_
    refine AR.ge2N (tgt := 20) (a := 7) (b := 7) dc_L_same_5 (by decide) (by first | rfl | (simp only [nI_add, pk_mul]; first | done | rfl)) (by first | rfl | (simp only [nI_add, pk_mul]; first | done | rfl)) (by omega) (by omega) (fun c5_3 => ?_) (fun c5_3 => absurd c5_3 (by omega))
    have e4_0 : F_LsameC_cc cc1 cc = (L_LsameC_2 cc1 cc 7) := by rw [F_LsameC_cc]
    exact AR.retV dc_L_same_20 rfl (by rw [e4_0])
