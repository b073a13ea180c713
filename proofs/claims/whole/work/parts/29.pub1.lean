theorem wiN_t {k a b : Nat} (h1 : a ≤ k) (h2 : k ≤ b) (hb : b < 2147483648) : wi (nI k) (nI a) (nI b) = nI 1 := by
  unfold wi
  rw [if_pos ⟨nI_le h1 (by omega), nI_le h2 hb⟩]
  rfl
theorem bi_0 {p : Prop} [Decidable p] (h : bi p = 0) : ¬ p := by
  intro hp
  unfold bi at h
  rw [if_pos hp] at h
  exact absurd h (by decide)
theorem rsZ_ne {z : Nat → Int32} {nv ne v c r : Nat} (h : rsZ z nv ne v c r = 0) : ¬ ne = 60 := by
  intro h1
  unfold rsZ at h
  rw [if_pos h1] at h
  (repeat' split at h) <;> exact absurd h (by decide)
def F_5addVolume (b0 : Int32) (b1 : Int32) (b2 : Int32) (b3 : Int32) (nv : Nat) : Int32 := if (wi b0 (nI (0)) (nI (19))) = 0 then (nI (0)) else if (wi b1 (nI (1)) (nI (3))) = 0 then (nI (0)) else if (wi b2 (nI (1)) (nI (40))) = 0 then (nI (0)) else if (wi b3 (nI (0)) (nI (3))) = 0 then (nI (0)) else if nv = 12 then (nI (0)) else ((nI ((nv + 1))) - (nI (1)))
def F_5addVolume_z (b0 : Int32) (b1 : Int32) (b2 : Int32) (b3 : Int32) (nv : Nat) (z : Nat → Int32) : Nat → Int32 := if (wi b0 (nI (0)) (nI (19))) = 0 then z else if (wi b1 (nI (1)) (nI (3))) = 0 then z else if (wi b2 (nI (1)) (nI (40))) = 0 then z else if (wi b3 (nI (0)) (nI (3))) = 0 then z else if nv = 12 then z else (upd (upd (upd (upd (upd z ((11 + (7 * nv)) + 0) b0) ((11 + (7 * nv)) + 1) b1) ((11 + (7 * nv)) + 2) b2) ((11 + (7 * nv)) + 3) b3) 0 (nI ((nv + 1))))
def F_5addVolume_ro (b0 : Int32) (b1 : Int32) (b2 : Int32) (b3 : Int32) (nv : Nat) (s : Nat) (z : Nat → Int32) (ro : Nat → Int32) : Nat → Int32 := if (wi b0 (nI (0)) (nI (19))) = 0 then ro else if (wi b1 (nI (1)) (nI (3))) = 0 then ro else if (wi b2 (nI (1)) (nI (40))) = 0 then ro else if (wi b3 (nI (0)) (nI (3))) = 0 then ro else if nv = 12 then ro else (svR z ro s)
def F_5addVolume_sv (b0 : Int32) (b1 : Int32) (b2 : Int32) (b3 : Int32) (nv : Nat) (s : Nat) (sv : Int32) : Int32 := if (wi b0 (nI (0)) (nI (19))) = 0 then sv else if (wi b1 (nI (1)) (nI (3))) = 0 then sv else if (wi b2 (nI (1)) (nI (40))) = 0 then sv else if (wi b3 (nI (0)) (nI (3))) = 0 then sv else if nv = 12 then sv else (nI (svN s))
def F_5addVolume_th (b0 : Int32) (b1 : Int32) (b2 : Int32) (b3 : Int32) (nv : Nat) : Int32 := if (wi b0 (nI (0)) (nI (19))) = 0 then (nI (1)) else if (wi b1 (nI (1)) (nI (3))) = 0 then (nI (1)) else if (wi b2 (nI (1)) (nI (40))) = 0 then (nI (1)) else if (wi b3 (nI (0)) (nI (3))) = 0 then (nI (1)) else if nv = 12 then (nI (2)) else (nI (0))
theorem g_X5_addVolume_0_6 : ab_oks M_X5_addVolume [(0, .aload_n 0, 1, 0, 0, 0, .null), (1, .iconst 0, 1, 0, 0, 0, .int (nI (0))), (2, .putfield 40, 3, 5, 15, 951, .null), (5, .iload_n 1, 1, 1, 0, 0, .null), (6, .iconst 0, 1, 0, 0, 0, .int (nI (0))), (7, .bipush 19, 2, 0, 0, 0, .int (nI (19)))] = true := by decide +kernel
theorem dc_X5_addVolume_9 : decode (AM.bytes M_X5_addVolume) 9 = .ok (.invokestatic 44, 3) := by decide +kernel
theorem dc_X5_addVolume_12 : decode (AM.bytes M_X5_addVolume) 12 = .ok (.ifCond .eq 32, 3) := by decide +kernel
theorem g_X5_addVolume_44_2 : ab_oks M_X5_addVolume [(44, .aload_n 0, 1, 0, 0, 0, .null), (45, .iconst 1, 1, 0, 0, 0, .int (nI (1)))] = true := by decide +kernel
theorem lk_5_51 : ab_lkV "LeafCradlesModel" 51 M_X5_fails 1 [999, 1001, 33, 97, 1002] = true := by decide +kernel
theorem dc_X5_addVolume_46 : decode (AM.bytes M_X5_addVolume) 46 = .ok (.invokevirtual 51, 3) := by decide +kernel
theorem dc_X5_addVolume_49 : decode (AM.bytes M_X5_addVolume) 49 = .ok (.ireturn, 1) := by decide +kernel
theorem g_X5_addVolume_15_3 : ab_oks M_X5_addVolume [(15, .iload_n 2, 1, 2, 0, 0, .null), (16, .iconst 1, 1, 0, 0, 0, .int (nI (1))), (17, .iconst 3, 1, 0, 0, 0, .int (nI (3)))] = true := by decide +kernel
theorem dc_X5_addVolume_18 : decode (AM.bytes M_X5_addVolume) 18 = .ok (.invokestatic 44, 3) := by decide +kernel
theorem dc_X5_addVolume_21 : decode (AM.bytes M_X5_addVolume) 21 = .ok (.ifCond .eq 23, 3) := by decide +kernel
theorem g_X5_addVolume_24_3 : ab_oks M_X5_addVolume [(24, .iload_n 3, 1, 3, 0, 0, .null), (25, .iconst 1, 1, 0, 0, 0, .int (nI (1))), (26, .bipush 40, 2, 0, 0, 0, .int (nI (40)))] = true := by decide +kernel
theorem dc_X5_addVolume_28 : decode (AM.bytes M_X5_addVolume) 28 = .ok (.invokestatic 44, 3) := by decide +kernel
theorem dc_X5_addVolume_31 : decode (AM.bytes M_X5_addVolume) 31 = .ok (.ifCond .eq 13, 3) := by decide +kernel
theorem g_X5_addVolume_34_3 : ab_oks M_X5_addVolume [(34, .iload 4, 2, 4, 0, 0, .null), (36, .iconst 0, 1, 0, 0, 0, .int (nI (0))), (37, .iconst 3, 1, 0, 0, 0, .int (nI (3)))] = true := by decide +kernel
theorem dc_X5_addVolume_38 : decode (AM.bytes M_X5_addVolume) 38 = .ok (.invokestatic 44, 3) := by decide +kernel
theorem dc_X5_addVolume_41 : decode (AM.bytes M_X5_addVolume) 41 = .ok (.ifCond .ne 9, 3) := by decide +kernel
theorem g_X5_addVolume_50_3 : ab_oks M_X5_addVolume [(50, .aload_n 0, 1, 0, 0, 0, .null), (51, .getfield 7, 3, 5, 0, 936, .null), (54, .iconst 0, 1, 0, 0, 0, .int (nI (0)))] = true := by decide +kernel
theorem ok_X5_addVolume_55 : ab_ok M_X5_addVolume (55, .iaload, 1, 0, 0, 0, .null) = true := by decide +kernel
theorem g_X5_addVolume_56_1 : ab_oks M_X5_addVolume [(56, .bipush 12, 2, 0, 0, 0, .int (nI (12)))] = true := by decide +kernel
theorem dc_X5_addVolume_58 : decode (AM.bytes M_X5_addVolume) 58 = .ok (.if_icmp .ne 9, 3) := by decide +kernel
theorem g_X5_addVolume_67_1 : ab_oks M_X5_addVolume [(67, .aload_n 0, 1, 0, 0, 0, .null)] = true := by decide +kernel
theorem lk_5_55 : ab_lkV "LeafCradlesModel" 55 M_X5_save 0 [1003, 1005, 34, 97, 1006] = true := by decide +kernel
theorem dc_X5_addVolume_68 : decode (AM.bytes M_X5_addVolume) 68 = .ok (.invokevirtual 55, 3) := by decide +kernel
theorem g_X5_addVolume_71_5 : ab_oks M_X5_addVolume [(71, .bipush 11, 2, 0, 0, 0, .int (nI (11))), (73, .bipush 7, 2, 0, 0, 0, .int (nI (7))), (75, .aload_n 0, 1, 0, 0, 0, .null), (76, .getfield 7, 3, 5, 0, 936, .null), (79, .iconst 0, 1, 0, 0, 0, .int (nI (0)))] = true := by decide +kernel
theorem ok_X5_addVolume_80 : ab_ok M_X5_addVolume (80, .iaload, 1, 0, 0, 0, .null) = true := by decide +kernel
theorem g_X5_addVolume_81_9 : ab_oks M_X5_addVolume [(81, .imul, 1, 0, 0, 0, .null), (82, .iadd, 1, 0, 0, 0, .null), (83, .istore 5, 2, 5, 0, 0, .null), (85, .aload_n 0, 1, 0, 0, 0, .null), (86, .getfield 7, 3, 5, 0, 936, .null), (89, .iload 5, 2, 5, 0, 0, .null), (91, .iconst 0, 1, 0, 0, 0, .int (nI (0))), (92, .iadd, 1, 0, 0, 0, .null), (93, .iload_n 1, 1, 1, 0, 0, .null)] = true := by decide +kernel
theorem ok_X5_addVolume_94 : ab_ok M_X5_addVolume (94, .iastore, 1, 0, 0, 0, .null) = true := by decide +kernel
theorem g_X5_addVolume_95_6 : ab_oks M_X5_addVolume [(95, .aload_n 0, 1, 0, 0, 0, .null), (96, .getfield 7, 3, 5, 0, 936, .null), (99, .iload 5, 2, 5, 0, 0, .null), (101, .iconst 1, 1, 0, 0, 0, .int (nI (1))), (102, .iadd, 1, 0, 0, 0, .null), (103, .iload_n 2, 1, 2, 0, 0, .null)] = true := by decide +kernel
theorem ok_X5_addVolume_104 : ab_ok M_X5_addVolume (104, .iastore, 1, 0, 0, 0, .null) = true := by decide +kernel
theorem g_X5_addVolume_105_6 : ab_oks M_X5_addVolume [(105, .aload_n 0, 1, 0, 0, 0, .null), (106, .getfield 7, 3, 5, 0, 936, .null), (109, .iload 5, 2, 5, 0, 0, .null), (111, .iconst 2, 1, 0, 0, 0, .int (nI (2))), (112, .iadd, 1, 0, 0, 0, .null), (113, .iload_n 3, 1, 3, 0, 0, .null)] = true := by decide +kernel
theorem ok_X5_addVolume_114 : ab_ok M_X5_addVolume (114, .iastore, 1, 0, 0, 0, .null) = true := by decide +kernel
theorem g_X5_addVolume_115_6 : ab_oks M_X5_addVolume [(115, .aload_n 0, 1, 0, 0, 0, .null), (116, .getfield 7, 3, 5, 0, 936, .null), (119, .iload 5, 2, 5, 0, 0, .null), (121, .iconst 3, 1, 0, 0, 0, .int (nI (3))), (122, .iadd, 1, 0, 0, 0, .null), (123, .iload 4, 2, 4, 0, 0, .null)] = true := by decide +kernel
theorem ok_X5_addVolume_125 : ab_ok M_X5_addVolume (125, .iastore, 1, 0, 0, 0, .null) = true := by decide +kernel
theorem g_X5_addVolume_126_4 : ab_oks M_X5_addVolume [(126, .aload_n 0, 1, 0, 0, 0, .null), (127, .getfield 7, 3, 5, 0, 936, .null), (130, .iconst 0, 1, 0, 0, 0, .int (nI (0))), (131, .dup2, 1, 0, 0, 0, .null)] = true := by decide +kernel
theorem ok_X5_addVolume_132 : ab_ok M_X5_addVolume (132, .iaload, 1, 0, 0, 0, .null) = true := by decide +kernel
theorem g_X5_addVolume_133_2 : ab_oks M_X5_addVolume [(133, .iconst 1, 1, 0, 0, 0, .int (nI (1))), (134, .iadd, 1, 0, 0, 0, .null)] = true := by decide +kernel
theorem ok_X5_addVolume_135 : ab_ok M_X5_addVolume (135, .iastore, 1, 0, 0, 0, .null) = true := by decide +kernel
theorem g_X5_addVolume_136_3 : ab_oks M_X5_addVolume [(136, .aload_n 0, 1, 0, 0, 0, .null), (137, .getfield 7, 3, 5, 0, 936, .null), (140, .iconst 0, 1, 0, 0, 0, .int (nI (0)))] = true := by decide +kernel
theorem ok_X5_addVolume_141 : ab_ok M_X5_addVolume (141, .iaload, 1, 0, 0, 0, .null) = true := by decide +kernel
theorem g_X5_addVolume_142_2 : ab_oks M_X5_addVolume [(142, .iconst 1, 1, 0, 0, 0, .int (nI (1))), (143, .isub, 1, 0, 0, 0, .null)] = true := by decide +kernel
theorem dc_X5_addVolume_144 : decode (AM.bytes M_X5_addVolume) 144 = .ok (.ireturn, 1) := by decide +kernel
theorem g_X5_addVolume_61_2 : ab_oks M_X5_addVolume [(61, .aload_n 0, 1, 0, 0, 0, .null), (62, .iconst 2, 1, 0, 0, 0, .int (nI (2)))] = true := by decide +kernel
theorem dc_X5_addVolume_63 : decode (AM.bytes M_X5_addVolume) 63 = .ok (.invokevirtual 51, 3) := by decide +kernel
theorem dc_X5_addVolume_66 : decode (AM.bytes M_X5_addVolume) 66 = .ok (.ireturn, 1) := by decide +kernel
set_option maxRecDepth 100000 in
set_option maxHeartbeats 4000000 in
theorem s_5addVolume {E : AE} (d : Nat) (b0 : Int32) (b1 : Int32) (b2 : Int32) (b3 : Int32) {nv : Nat} {nc : Nat} {nr : Nat} {ne : Nat} {s : Nat}  {o0 a0 t0 p0 u0 l0 : List AC} {z sa ro te fr to un ga pi be : Nat → Int32} {bm en sta sv ln th : Int32} {hh : Int64} (hZ : ZI z nv nc nr ne) (hs : sv = nI s) (hs6 : s ≤ 6) : CT E M_X5_addVolume (d + 1) [.ref 16384, .int (b0), .int (b1), .int (b2), .int (b3)] (hp o0 a0 t0 p0 (mo z sa ro te fr to un ga pi be bm en sta sv ln th hh) u0 l0) (.inl (some (.int (F_5addVolume b0 b1 b2 b3 nv)))) (hp o0 a0 t0 p0 (mo (F_5addVolume_z b0 b1 b2 b3 nv z) sa (F_5addVolume_ro b0 b1 b2 b3 nv s z ro) te fr to un ga pi be bm en sta (F_5addVolume_sv b0 b1 b2 b3 nv s sv) ln (F_5addVolume_th b0 b1 b2 b3 nv) hh) u0 l0) 0 0 := by
  obtain ⟨⟨hnv, h12⟩, ⟨hnc, h4⟩, ⟨hnr, h3⟩, ⟨hne, h60⟩, hLV⟩ := id hZ
  refine CT.of (L := [some (.ref 16384), some (.int (b0)), some (.int (b1)), some (.int (b2)), some (.int (b3)), none]) rfl rfl ?_
  refine AR.run g_X5_addVolume_0_6 9 [some (.ref 16384), some (.int (b0)), some (.int (b1)), some (.int (b2)), some (.int (b3)), none] [.int (nI (19)), .int (nI (0)), .int (b0)] (hp o0 a0 t0 p0 (mo z sa ro te fr to un ga pi be bm en sta sv ln (nI (0)) hh) u0 l0) [] rfl trivial ?_
  refine AR.callS1 [.int (b0), .int (nI (0)), .int (nI (19))] [] lk_5_44 dc_X5_addVolume_9 (s_within _ b0 (nI (0)) (nI (19)) ) (by first | rfl | (simp only [nI_add, pk_mul]; first | done | rfl)) rfl ?_
  refine AR.eq (tgt := 44) dc_X5_addVolume_12 (by decide) (fun c12_1 => ?_) (fun c12_1 => ?_)
  · refine AR.run g_X5_addVolume_44_2 46 [some (.ref 16384), some (.int (b0)), some (.int (b1)), some (.int (b2)), some (.int (b3)), none] [.int (nI (1)), .ref 16384] _ [] rfl trivial ?_
    refine AR.callV1 (16384) [.int (nI (1))] [] lk_5_51 dc_X5_addVolume_46 rfl rfl (s_fails _ (nI (1)) ) (by first | rfl | (simp only [nI_add, pk_mul]; first | done | rfl)) rfl ?_
    have e2_0 : F_5addVolume b0 b1 b2 b3 nv = (nI (0)) := by rw [F_5addVolume, if_pos c12_1]
    have e2_1 : F_5addVolume_z b0 b1 b2 b3 nv z = z := by rw [F_5addVolume_z, if_pos c12_1]
    have e2_2 : F_5addVolume_ro b0 b1 b2 b3 nv s z ro = ro := by rw [F_5addVolume_ro, if_pos c12_1]
    have e2_3 : F_5addVolume_sv b0 b1 b2 b3 nv s sv = sv := by rw [F_5addVolume_sv, if_pos c12_1]
    have e2_4 : F_5addVolume_th b0 b1 b2 b3 nv = (nI (1)) := by rw [F_5addVolume_th, if_pos c12_1]
    exact AR.retI dc_X5_addVolume_49 rfl e2_0.symm (by rw [e2_1, e2_2, e2_3, e2_4])
  · refine AR.run g_X5_addVolume_15_3 18 [some (.ref 16384), some (.int (b0)), some (.int (b1)), some (.int (b2)), some (.int (b3)), none] [.int (nI (3)), .int (nI (1)), .int (b1)] _ [] rfl trivial ?_
    refine AR.callS1 [.int (b1), .int (nI (1)), .int (nI (3))] [] lk_5_44 dc_X5_addVolume_18 (s_within _ b1 (nI (1)) (nI (3)) ) (by first | rfl | (simp only [nI_add, pk_mul]; first | done | rfl)) rfl ?_
    refine AR.eq (tgt := 44) dc_X5_addVolume_21 (by decide) (fun c21_3 => ?_) (fun c21_3 => ?_)
    · refine AR.run g_X5_addVolume_44_2 46 [some (.ref 16384), some (.int (b0)), some (.int (b1)), some (.int (b2)), some (.int (b3)), none] [.int (nI (1)), .ref 16384] _ [] rfl trivial ?_
      refine AR.callV1 (16384) [.int (nI (1))] [] lk_5_51 dc_X5_addVolume_46 rfl rfl (s_fails _ (nI (1)) ) (by first | rfl | (simp only [nI_add, pk_mul]; first | done | rfl)) rfl ?_
      have e4_0 : F_5addVolume b0 b1 b2 b3 nv = (nI (0)) := by rw [F_5addVolume, if_neg c12_1, if_pos c21_3]
      have e4_1 : F_5addVolume_z b0 b1 b2 b3 nv z = z := by rw [F_5addVolume_z, if_neg c12_1, if_pos c21_3]
      have e4_2 : F_5addVolume_ro b0 b1 b2 b3 nv s z ro = ro := by rw [F_5addVolume_ro, if_neg c12_1, if_pos c21_3]
      have e4_3 : F_5addVolume_sv b0 b1 b2 b3 nv s sv = sv := by rw [F_5addVolume_sv, if_neg c12_1, if_pos c21_3]
      have e4_4 : F_5addVolume_th b0 b1 b2 b3 nv = (nI (1)) := by rw [F_5addVolume_th, if_neg c12_1, if_pos c21_3]
      exact AR.retI dc_X5_addVolume_49 rfl e4_0.symm (by rw [e4_1, e4_2, e4_3, e4_4])
    · refine AR.run g_X5_addVolume_24_3 28 [some (.ref 16384), some (.int (b0)), some (.int (b1)), some (.int (b2)), some (.int (b3)), none] [.int (nI (40)), .int (nI (1)), .int (b2)] _ [] rfl trivial ?_
      refine AR.callS1 [.int (b2), .int (nI (1)), .int (nI (40))] [] lk_5_44 dc_X5_addVolume_28 (s_within _ b2 (nI (1)) (nI (40)) ) (by first | rfl | (simp only [nI_add, pk_mul]; first | done | rfl)) rfl ?_
      refine AR.eq (tgt := 44) dc_X5_addVolume_31 (by decide) (fun c31_5 => ?_) (fun c31_5 => ?_)
      · refine AR.run g_X5_addVolume_44_2 46 [some (.ref 16384), some (.int (b0)), some (.int (b1)), some (.int (b2)), some (.int (b3)), none] [.int (nI (1)), .ref 16384] _ [] rfl trivial ?_
        refine AR.callV1 (16384) [.int (nI (1))] [] lk_5_51 dc_X5_addVolume_46 rfl rfl (s_fails _ (nI (1)) ) (by first | rfl | (simp only [nI_add, pk_mul]; first | done | rfl)) rfl ?_
        have e6_0 : F_5addVolume b0 b1 b2 b3 nv = (nI (0)) := by rw [F_5addVolume, if_neg c12_1, if_neg c21_3, if_pos c31_5]
        have e6_1 : F_5addVolume_z b0 b1 b2 b3 nv z = z := by rw [F_5addVolume_z, if_neg c12_1, if_neg c21_3, if_pos c31_5]
        have e6_2 : F_5addVolume_ro b0 b1 b2 b3 nv s z ro = ro := by rw [F_5addVolume_ro, if_neg c12_1, if_neg c21_3, if_pos c31_5]
        have e6_3 : F_5addVolume_sv b0 b1 b2 b3 nv s sv = sv := by rw [F_5addVolume_sv, if_neg c12_1, if_neg c21_3, if_pos c31_5]
        have e6_4 : F_5addVolume_th b0 b1 b2 b3 nv = (nI (1)) := by rw [F_5addVolume_th, if_neg c12_1, if_neg c21_3, if_pos c31_5]
        exact AR.retI dc_X5_addVolume_49 rfl e6_0.symm (by rw [e6_1, e6_2, e6_3, e6_4])
      · refine AR.run g_X5_addVolume_34_3 38 [some (.ref 16384), some (.int (b0)), some (.int (b1)), some (.int (b2)), some (.int (b3)), none] [.int (nI (3)), .int (nI (0)), .int (b3)] _ [] rfl trivial ?_
        refine AR.callS1 [.int (b3), .int (nI (0)), .int (nI (3))] [] lk_5_44 dc_X5_addVolume_38 (s_within _ b3 (nI (0)) (nI (3)) ) (by first | rfl | (simp only [nI_add, pk_mul]; first | done | rfl)) rfl ?_
        refine AR.ne (tgt := 50) dc_X5_addVolume_41 (by decide) (fun c41_7 => ?_) (fun c41_7 => ?_)
        · refine AR.run g_X5_addVolume_50_3 55 [some (.ref 16384), some (.int (b0)), some (.int (b1)), some (.int (b2)), some (.int (b3)), none] [.int (nI (0)), .ref 16385] _ [] rfl trivial ?_
          refine AR.ald (n := 0) (e := 0) ok_X5_addVolume_55 (by first | rfl | (simp only [nI_add, pk_mul]; first | done | rfl)) rfl (by omega) (by first | decide | omega) ?_
          refine AR.top hZ.1.1 ?_
          refine AR.run g_X5_addVolume_56_1 58 [some (.ref 16384), some (.int (b0)), some (.int (b1)), some (.int (b2)), some (.int (b3)), none] [.int (nI (12)), .int (nI (nv))] _ [] rfl trivial ?_
          refine AR.ne2N (tgt := 67) (a := nv) (b := 12) dc_X5_addVolume_58 (by decide) (by first | rfl | (simp only [nI_add, pk_mul]; first | done | rfl)) (by first | rfl | (simp only [nI_add, pk_mul]; first | done | rfl)) (by omega) (by omega) (fun c58_8 => ?_) (fun c58_8 => ?_)
          · refine AR.run g_X5_addVolume_67_1 68 [some (.ref 16384), some (.int (b0)), some (.int (b1)), some (.int (b2)), some (.int (b3)), none] [.ref 16384] _ [] rfl trivial ?_
            refine AR.callV0 (16384) [] [] lk_5_55 dc_X5_addVolume_68 rfl rfl (s_5save _ (by assumption) (by omega)) (by first | rfl | (simp only [nI_add, pk_mul]; first | done | rfl)) rfl ?_
            refine AR.run g_X5_addVolume_71_5 80 [some (.ref 16384), some (.int (b0)), some (.int (b1)), some (.int (b2)), some (.int (b3)), none] [.int (nI (0)), .ref 16385, .int (nI (7)), .int (nI (11))] _ [] rfl trivial ?_
            refine AR.ald (n := 0) (e := 0) ok_X5_addVolume_80 (by first | rfl | (simp only [nI_add, pk_mul]; first | done | rfl)) rfl (by omega) (by first | decide | omega) ?_
            refine AR.top hZ.1.1 ?_
            refine AR.run g_X5_addVolume_81_9 94 [some (.ref 16384), some (.int (b0)), some (.int (b1)), some (.int (b2)), some (.int (b3)), some (.int ((nI (11)) + ((nI (7)) * (nI (nv)))))] [.int (b0), .int (((nI (11)) + ((nI (7)) * (nI (nv)))) + (nI (0))), .ref 16385] _ [] rfl trivial ?_
            refine AR.ast (n := 0) (e := ((11 + (7 * nv)) + 0)) (h1 := (hp o0 a0 t0 p0 (mo (upd z ((11 + (7 * nv)) + 0) b0) sa (svR z ro s) te fr to un ga pi be bm en sta (nI (svN s)) ln (nI (0)) hh) u0 l0)) ok_X5_addVolume_94 (by first | rfl | (simp only [nI_add, pk_mul]; first | done | rfl)) rfl rfl (by omega) (by decide) rfl ?_
            refine AR.run g_X5_addVolume_95_6 104 [some (.ref 16384), some (.int (b0)), some (.int (b1)), some (.int (b2)), some (.int (b3)), some (.int ((nI (11)) + ((nI (7)) * (nI (nv)))))] [.int (b1), .int (((nI (11)) + ((nI (7)) * (nI (nv)))) + (nI (1))), .ref 16385] _ [] rfl trivial ?_
            refine AR.ast (n := 0) (e := ((11 + (7 * nv)) + 1)) (h1 := (hp o0 a0 t0 p0 (mo (upd (upd z ((11 + (7 * nv)) + 0) b0) ((11 + (7 * nv)) + 1) b1) sa (svR z ro s) te fr to un ga pi be bm en sta (nI (svN s)) ln (nI (0)) hh) u0 l0)) ok_X5_addVolume_104 (by first | rfl | (simp only [nI_add, pk_mul]; first | done | rfl)) rfl rfl (by omega) (by decide) rfl ?_
            refine AR.run g_X5_addVolume_105_6 114 [some (.ref 16384), some (.int (b0)), some (.int (b1)), some (.int (b2)), some (.int (b3)), some (.int ((nI (11)) + ((nI (7)) * (nI (nv)))))] [.int (b2), .int (((nI (11)) + ((nI (7)) * (nI (nv)))) + (nI (2))), .ref 16385] _ [] rfl trivial ?_
            refine AR.ast (n := 0) (e := ((11 + (7 * nv)) + 2)) (h1 := (hp o0 a0 t0 p0 (mo (upd (upd (upd z ((11 + (7 * nv)) + 0) b0) ((11 + (7 * nv)) + 1) b1) ((11 + (7 * nv)) + 2) b2) sa (svR z ro s) te fr to un ga pi be bm en sta (nI (svN s)) ln (nI (0)) hh) u0 l0)) ok_X5_addVolume_114 (by first | rfl | (simp only [nI_add, pk_mul]; first | done | rfl)) rfl rfl (by omega) (by decide) rfl ?_
            refine AR.run g_X5_addVolume_115_6 125 [some (.ref 16384), some (.int (b0)), some (.int (b1)), some (.int (b2)), some (.int (b3)), some (.int ((nI (11)) + ((nI (7)) * (nI (nv)))))] [.int (b3), .int (((nI (11)) + ((nI (7)) * (nI (nv)))) + (nI (3))), .ref 16385] _ [] rfl trivial ?_
            refine AR.ast (n := 0) (e := ((11 + (7 * nv)) + 3)) (h1 := (hp o0 a0 t0 p0 (mo (upd (upd (upd (upd z ((11 + (7 * nv)) + 0) b0) ((11 + (7 * nv)) + 1) b1) ((11 + (7 * nv)) + 2) b2) ((11 + (7 * nv)) + 3) b3) sa (svR z ro s) te fr to un ga pi be bm en sta (nI (svN s)) ln (nI (0)) hh) u0 l0)) ok_X5_addVolume_125 (by first | rfl | (simp only [nI_add, pk_mul]; first | done | rfl)) rfl rfl (by omega) (by decide) rfl ?_
            refine AR.run g_X5_addVolume_126_4 132 [some (.ref 16384), some (.int (b0)), some (.int (b1)), some (.int (b2)), some (.int (b3)), some (.int ((nI (11)) + ((nI (7)) * (nI (nv)))))] [.int (nI (0)), .ref 16385, .int (nI (0)), .ref 16385] _ [] rfl trivial ?_
            refine AR.ald (n := 0) (e := 0) ok_X5_addVolume_132 (by first | rfl | (simp only [nI_add, pk_mul]; first | done | rfl)) rfl (by omega) (by first | decide | omega) ?_
            refine AR.top (y := z 0) (by show (upd (upd (upd (upd z ((11 + (7 * nv)) + 0) b0) ((11 + (7 * nv)) + 1) b1) ((11 + (7 * nv)) + 2) b2) ((11 + (7 * nv)) + 3) b3) 0 = _; rw [rn (by omega), rn (by omega), rn (by omega), rn (by omega)]) ?_
            refine AR.top hZ.1.1 ?_
            refine AR.run g_X5_addVolume_133_2 135 [some (.ref 16384), some (.int (b0)), some (.int (b1)), some (.int (b2)), some (.int (b3)), some (.int ((nI (11)) + ((nI (7)) * (nI (nv)))))] [.int ((nI (nv)) + (nI (1))), .int (nI (0)), .ref 16385] _ [] rfl trivial ?_
            refine AR.top (y := nI ((nv + 1))) (by first | rfl | (simp only [nI_add, pk_mul]; first | done | rfl)) ?_
            refine AR.ast (n := 0) (e := 0) (h1 := (hp o0 a0 t0 p0 (mo (upd (upd (upd (upd (upd z ((11 + (7 * nv)) + 0) b0) ((11 + (7 * nv)) + 1) b1) ((11 + (7 * nv)) + 2) b2) ((11 + (7 * nv)) + 3) b3) 0 (nI ((nv + 1)))) sa (svR z ro s) te fr to un ga pi be bm en sta (nI (svN s)) ln (nI (0)) hh) u0 l0)) ok_X5_addVolume_135 (by first | rfl | (simp only [nI_add, pk_mul]; first | done | rfl)) rfl rfl (by omega) (by decide) rfl ?_
            refine AR.run g_X5_addVolume_136_3 141 [some (.ref 16384), some (.int (b0)), some (.int (b1)), some (.int (b2)), some (.int (b3)), some (.int ((nI (11)) + ((nI (7)) * (nI (nv)))))] [.int (nI (0)), .ref 16385] _ [] rfl trivial ?_
            refine AR.ald (n := 0) (e := 0) ok_X5_addVolume_141 (by first | rfl | (simp only [nI_add, pk_mul]; first | done | rfl)) rfl (by omega) (by first | decide | omega) ?_
            refine AR.top (y := nI ((nv + 1))) (by show (upd (upd (upd (upd (upd z ((11 + (7 * nv)) + 0) b0) ((11 + (7 * nv)) + 1) b1) ((11 + (7 * nv)) + 2) b2) ((11 + (7 * nv)) + 3) b3) 0 (nI ((nv + 1)))) 0 = _; rw [ru (by omega)]) ?_
            refine AR.run g_X5_addVolume_142_2 144 [some (.ref 16384), some (.int (b0)), some (.int (b1)), some (.int (b2)), some (.int (b3)), some (.int ((nI (11)) + ((nI (7)) * (nI (nv)))))] [.int ((nI ((nv + 1))) - (nI (1)))] _ [] rfl trivial ?_
            have e9_0 : F_5addVolume b0 b1 b2 b3 nv = ((nI ((nv + 1))) - (nI (1))) := by rw [F_5addVolume, if_neg c12_1, if_neg c21_3, if_neg c31_5, if_neg c41_7, if_neg (show ¬ (nv = 12) from by omega)]
            have e9_1 : F_5addVolume_z b0 b1 b2 b3 nv z = (upd (upd (upd (upd (upd z ((11 + (7 * nv)) + 0) b0) ((11 + (7 * nv)) + 1) b1) ((11 + (7 * nv)) + 2) b2) ((11 + (7 * nv)) + 3) b3) 0 (nI ((nv + 1)))) := by rw [F_5addVolume_z, if_neg c12_1, if_neg c21_3, if_neg c31_5, if_neg c41_7, if_neg (show ¬ (nv = 12) from by omega)]
            have e9_2 : F_5addVolume_ro b0 b1 b2 b3 nv s z ro = (svR z ro s) := by rw [F_5addVolume_ro, if_neg c12_1, if_neg c21_3, if_neg c31_5, if_neg c41_7, if_neg (show ¬ (nv = 12) from by omega)]
            have e9_3 : F_5addVolume_sv b0 b1 b2 b3 nv s sv = (nI (svN s)) := by rw [F_5addVolume_sv, if_neg c12_1, if_neg c21_3, if_neg c31_5, if_neg c41_7, if_neg (show ¬ (nv = 12) from by omega)]
            have e9_4 : F_5addVolume_th b0 b1 b2 b3 nv = (nI (0)) := by rw [F_5addVolume_th, if_neg c12_1, if_neg c21_3, if_neg c31_5, if_neg c41_7, if_neg (show ¬ (nv = 12) from by omega)]
            exact AR.retI dc_X5_addVolume_144 rfl e9_0.symm (by rw [e9_1, e9_2, e9_3, e9_4])
          · refine AR.run g_X5_addVolume_61_2 63 [some (.ref 16384), some (.int (b0)), some (.int (b1)), some (.int (b2)), some (.int (b3)), none] [.int (nI (2)), .ref 16384] _ [] rfl trivial ?_
            refine AR.callV1 (16384) [.int (nI (2))] [] lk_5_51 dc_X5_addVolume_63 rfl rfl (s_fails _ (nI (2)) ) (by first | rfl | (simp only [nI_add, pk_mul]; first | done | rfl)) rfl ?_
            have e10_0 : F_5addVolume b0 b1 b2 b3 nv = (nI (0)) := by rw [F_5addVolume, if_neg c12_1, if_neg c21_3, if_neg c31_5, if_neg c41_7, if_pos (show nv = 12 from by omega)]
            have e10_1 : F_5addVolume_z b0 b1 b2 b3 nv z = z := by rw [F_5addVolume_z, if_neg c12_1, if_neg c21_3, if_neg c31_5, if_neg c41_7, if_pos (show nv = 12 from by omega)]
            have e10_2 : F_5addVolume_ro b0 b1 b2 b3 nv s z ro = ro := by rw [F_5addVolume_ro, if_neg c12_1, if_neg c21_3, if_neg c31_5, if_neg c41_7, if_pos (show nv = 12 from by omega)]
            have e10_3 : F_5addVolume_sv b0 b1 b2 b3 nv s sv = sv := by rw [F_5addVolume_sv, if_neg c12_1, if_neg c21_3, if_neg c31_5, if_neg c41_7, if_pos (show nv = 12 from by omega)]
            have e10_4 : F_5addVolume_th b0 b1 b2 b3 nv = (nI (2)) := by rw [F_5addVolume_th, if_neg c12_1, if_neg c21_3, if_neg c31_5, if_neg c41_7, if_pos (show nv = 12 from by omega)]
            exact AR.retI dc_X5_addVolume_66 rfl e10_0.symm (by rw [e10_1, e10_2, e10_3, e10_4])
        · refine AR.run g_X5_addVolume_44_2 46 [some (.ref 16384), some (.int (b0)), some (.int (b1)), some (.int (b2)), some (.int (b3)), none] [.int (nI (1)), .ref 16384] _ [] rfl trivial ?_
          refine AR.callV1 (16384) [.int (nI (1))] [] lk_5_51 dc_X5_addVolume_46 rfl rfl (s_fails _ (nI (1)) ) (by first | rfl | (simp only [nI_add, pk_mul]; first | done | rfl)) rfl ?_
          have e11_0 : F_5addVolume b0 b1 b2 b3 nv = (nI (0)) := by rw [F_5addVolume, if_neg c12_1, if_neg c21_3, if_neg c31_5, if_pos c41_7]
          have e11_1 : F_5addVolume_z b0 b1 b2 b3 nv z = z := by rw [F_5addVolume_z, if_neg c12_1, if_neg c21_3, if_neg c31_5, if_pos c41_7]
          have e11_2 : F_5addVolume_ro b0 b1 b2 b3 nv s z ro = ro := by rw [F_5addVolume_ro, if_neg c12_1, if_neg c21_3, if_neg c31_5, if_pos c41_7]
          have e11_3 : F_5addVolume_sv b0 b1 b2 b3 nv s sv = sv := by rw [F_5addVolume_sv, if_neg c12_1, if_neg c21_3, if_neg c31_5, if_pos c41_7]
          have e11_4 : F_5addVolume_th b0 b1 b2 b3 nv = (nI (1)) := by rw [F_5addVolume_th, if_neg c12_1, if_neg c21_3, if_neg c31_5, if_pos c41_7]
          exact AR.retI dc_X5_addVolume_49 rfl e11_0.symm (by rw [e11_1, e11_2, e11_3, e11_4])
def F_5addCradle (b0 : Int32) (b1 : Int32) (nc : Nat) : Int32 := if (wi b0 (nI (1)) (nI (3))) = 0 then (nI (0)) else if (wi b1 (nI (0)) (nI (2))) = 0 then (nI (0)) else if nc = 4 then (nI (0)) else ((nI ((nc + 1))) - (nI (1)))
def F_5addCradle_z (b0 : Int32) (b1 : Int32) (nc : Nat) (z : Nat → Int32) : Nat → Int32 := if (wi b0 (nI (1)) (nI (3))) = 0 then z else if (wi b1 (nI (0)) (nI (2))) = 0 then z else if nc = 4 then z else (upd (upd (upd z ((95 + (4 * nc)) + 0) b0) ((95 + (4 * nc)) + 1) b1) 1 (nI ((nc + 1))))
def F_5addCradle_ro (b0 : Int32) (b1 : Int32) (nc : Nat) (s : Nat) (z : Nat → Int32) (ro : Nat → Int32) : Nat → Int32 := if (wi b0 (nI (1)) (nI (3))) = 0 then ro else if (wi b1 (nI (0)) (nI (2))) = 0 then ro else if nc = 4 then ro else (svR z ro s)
def F_5addCradle_sv (b0 : Int32) (b1 : Int32) (nc : Nat) (s : Nat) (sv : Int32) : Int32 := if (wi b0 (nI (1)) (nI (3))) = 0 then sv else if (wi b1 (nI (0)) (nI (2))) = 0 then sv else if nc = 4 then sv else (nI (svN s))
def F_5addCradle_th (b0 : Int32) (b1 : Int32) (nc : Nat) : Int32 := if (wi b0 (nI (1)) (nI (3))) = 0 then (nI (1)) else if (wi b1 (nI (0)) (nI (2))) = 0 then (nI (1)) else if nc = 4 then (nI (2)) else (nI (0))
theorem g_X5_addCradle_0_6 : ab_oks M_X5_addCradle [(0, .aload_n 0, 1, 0, 0, 0, .null), (1, .iconst 0, 1, 0, 0, 0, .int (nI (0))), (2, .putfield 40, 3, 5, 15, 951, .null), (5, .iload_n 1, 1, 1, 0, 0, .null), (6, .iconst 1, 1, 0, 0, 0, .int (nI (1))), (7, .iconst 3, 1, 0, 0, 0, .int (nI (3)))] = true := by decide +kernel
theorem dc_X5_addCradle_8 : decode (AM.bytes M_X5_addCradle) 8 = .ok (.invokestatic 44, 3) := by decide +kernel
theorem dc_X5_addCradle_11 : decode (AM.bytes M_X5_addCradle) 11 = .ok (.ifCond .eq 12, 3) := by decide +kernel
theorem g_X5_addCradle_23_2 : ab_oks M_X5_addCradle [(23, .aload_n 0, 1, 0, 0, 0, .null), (24, .iconst 1, 1, 0, 0, 0, .int (nI (1)))] = true := by decide +kernel
theorem dc_X5_addCradle_25 : decode (AM.bytes M_X5_addCradle) 25 = .ok (.invokevirtual 51, 3) := by decide +kernel
theorem dc_X5_addCradle_28 : decode (AM.bytes M_X5_addCradle) 28 = .ok (.ireturn, 1) := by decide +kernel
theorem g_X5_addCradle_14_3 : ab_oks M_X5_addCradle [(14, .iload_n 2, 1, 2, 0, 0, .null), (15, .iconst 0, 1, 0, 0, 0, .int (nI (0))), (16, .iconst 2, 1, 0, 0, 0, .int (nI (2)))] = true := by decide +kernel
theorem dc_X5_addCradle_17 : decode (AM.bytes M_X5_addCradle) 17 = .ok (.invokestatic 44, 3) := by decide +kernel
theorem dc_X5_addCradle_20 : decode (AM.bytes M_X5_addCradle) 20 = .ok (.ifCond .ne 9, 3) := by decide +kernel
theorem g_X5_addCradle_29_3 : ab_oks M_X5_addCradle [(29, .aload_n 0, 1, 0, 0, 0, .null), (30, .getfield 7, 3, 5, 0, 936, .null), (33, .iconst 1, 1, 0, 0, 0, .int (nI (1)))] = true := by decide +kernel
theorem ok_X5_addCradle_34 : ab_ok M_X5_addCradle (34, .iaload, 1, 0, 0, 0, .null) = true := by decide +kernel
theorem g_X5_addCradle_35_1 : ab_oks M_X5_addCradle [(35, .iconst 4, 1, 0, 0, 0, .int (nI (4)))] = true := by decide +kernel
theorem dc_X5_addCradle_36 : decode (AM.bytes M_X5_addCradle) 36 = .ok (.if_icmp .ne 9, 3) := by decide +kernel
theorem g_X5_addCradle_45_1 : ab_oks M_X5_addCradle [(45, .aload_n 0, 1, 0, 0, 0, .null)] = true := by decide +kernel
theorem dc_X5_addCradle_46 : decode (AM.bytes M_X5_addCradle) 46 = .ok (.invokevirtual 55, 3) := by decide +kernel
theorem g_X5_addCradle_49_5 : ab_oks M_X5_addCradle [(49, .bipush 95, 2, 0, 0, 0, .int (nI (95))), (51, .iconst 4, 1, 0, 0, 0, .int (nI (4))), (52, .aload_n 0, 1, 0, 0, 0, .null), (53, .getfield 7, 3, 5, 0, 936, .null), (56, .iconst 1, 1, 0, 0, 0, .int (nI (1)))] = true := by decide +kernel
theorem ok_X5_addCradle_57 : ab_ok M_X5_addCradle (57, .iaload, 1, 0, 0, 0, .null) = true := by decide +kernel
theorem g_X5_addCradle_58_9 : ab_oks M_X5_addCradle [(58, .imul, 1, 0, 0, 0, .null), (59, .iadd, 1, 0, 0, 0, .null), (60, .istore_n 3, 1, 3, 0, 0, .null), (61, .aload_n 0, 1, 0, 0, 0, .null), (62, .getfield 7, 3, 5, 0, 936, .null), (65, .iload_n 3, 1, 3, 0, 0, .null), (66, .iconst 0, 1, 0, 0, 0, .int (nI (0))), (67, .iadd, 1, 0, 0, 0, .null), (68, .iload_n 1, 1, 1, 0, 0, .null)] = true := by decide +kernel
theorem ok_X5_addCradle_69 : ab_ok M_X5_addCradle (69, .iastore, 1, 0, 0, 0, .null) = true := by decide +kernel
theorem g_X5_addCradle_70_6 : ab_oks M_X5_addCradle [(70, .aload_n 0, 1, 0, 0, 0, .null), (71, .getfield 7, 3, 5, 0, 936, .null), (74, .iload_n 3, 1, 3, 0, 0, .null), (75, .iconst 1, 1, 0, 0, 0, .int (nI (1))), (76, .iadd, 1, 0, 0, 0, .null), (77, .iload_n 2, 1, 2, 0, 0, .null)] = true := by decide +kernel
theorem ok_X5_addCradle_78 : ab_ok M_X5_addCradle (78, .iastore, 1, 0, 0, 0, .null) = true := by decide +kernel
theorem g_X5_addCradle_79_4 : ab_oks M_X5_addCradle [(79, .aload_n 0, 1, 0, 0, 0, .null), (80, .getfield 7, 3, 5, 0, 936, .null), (83, .iconst 1, 1, 0, 0, 0, .int (nI (1))), (84, .dup2, 1, 0, 0, 0, .null)] = true := by decide +kernel
theorem ok_X5_addCradle_85 : ab_ok M_X5_addCradle (85, .iaload, 1, 0, 0, 0, .null) = true := by decide +kernel
theorem g_X5_addCradle_86_2 : ab_oks M_X5_addCradle [(86, .iconst 1, 1, 0, 0, 0, .int (nI (1))), (87, .iadd, 1, 0, 0, 0, .null)] = true := by decide +kernel
theorem ok_X5_addCradle_88 : ab_ok M_X5_addCradle (88, .iastore, 1, 0, 0, 0, .null) = true := by decide +kernel
theorem g_X5_addCradle_89_3 : ab_oks M_X5_addCradle [(89, .aload_n 0, 1, 0, 0, 0, .null), (90, .getfield 7, 3, 5, 0, 936, .null), (93, .iconst 1, 1, 0, 0, 0, .int (nI (1)))] = true := by decide +kernel
theorem ok_X5_addCradle_94 : ab_ok M_X5_addCradle (94, .iaload, 1, 0, 0, 0, .null) = true := by decide +kernel
theorem g_X5_addCradle_95_2 : ab_oks M_X5_addCradle [(95, .iconst 1, 1, 0, 0, 0, .int (nI (1))), (96, .isub, 1, 0, 0, 0, .null)] = true := by decide +kernel
theorem dc_X5_addCradle_97 : decode (AM.bytes M_X5_addCradle) 97 = .ok (.ireturn, 1) := by decide +kernel
theorem g_X5_addCradle_39_2 : ab_oks M_X5_addCradle [(39, .aload_n 0, 1, 0, 0, 0, .null), (40, .iconst 2, 1, 0, 0, 0, .int (nI (2)))] = true := by decide +kernel
theorem dc_X5_addCradle_41 : decode (AM.bytes M_X5_addCradle) 41 = .ok (.invokevirtual 51, 3) := by decide +kernel
theorem dc_X5_addCradle_44 : decode (AM.bytes M_X5_addCradle) 44 = .ok (.ireturn, 1) := by decide +kernel
set_option maxRecDepth 100000 in
set_option maxHeartbeats 4000000 in
theorem s_5addCradle {E : AE} (d : Nat) (b0 : Int32) (b1 : Int32) {nv : Nat} {nc : Nat} {nr : Nat} {ne : Nat} {s : Nat}  {o0 a0 t0 p0 u0 l0 : List AC} {z sa ro te fr to un ga pi be : Nat → Int32} {bm en sta sv ln th : Int32} {hh : Int64} (hZ : ZI z nv nc nr ne) (hs : sv = nI s) (hs6 : s ≤ 6) : CT E M_X5_addCradle (d + 1) [.ref 16384, .int (b0), .int (b1)] (hp o0 a0 t0 p0 (mo z sa ro te fr to un ga pi be bm en sta sv ln th hh) u0 l0) (.inl (some (.int (F_5addCradle b0 b1 nc)))) (hp o0 a0 t0 p0 (mo (F_5addCradle_z b0 b1 nc z) sa (F_5addCradle_ro b0 b1 nc s z ro) te fr to un ga pi be bm en sta (F_5addCradle_sv b0 b1 nc s sv) ln (F_5addCradle_th b0 b1 nc) hh) u0 l0) 0 0 := by
  obtain ⟨⟨hnv, h12⟩, ⟨hnc, h4⟩, ⟨hnr, h3⟩, ⟨hne, h60⟩, hLV⟩ := id hZ
  refine CT.of (L := [some (.ref 16384), some (.int (b0)), some (.int (b1)), none]) rfl rfl ?_
  refine AR.run g_X5_addCradle_0_6 8 [some (.ref 16384), some (.int (b0)), some (.int (b1)), none] [.int (nI (3)), .int (nI (1)), .int (b0)] (hp o0 a0 t0 p0 (mo z sa ro te fr to un ga pi be bm en sta sv ln (nI (0)) hh) u0 l0) [] rfl trivial ?_
  refine AR.callS1 [.int (b0), .int (nI (1)), .int (nI (3))] [] lk_5_44 dc_X5_addCradle_8 (s_within _ b0 (nI (1)) (nI (3)) ) (by first | rfl | (simp only [nI_add, pk_mul]; first | done | rfl)) rfl ?_
  refine AR.eq (tgt := 23) dc_X5_addCradle_11 (by decide) (fun c11_1 => ?_) (fun c11_1 => ?_)
  · refine AR.run g_X5_addCradle_23_2 25 [some (.ref 16384), some (.int (b0)), some (.int (b1)), none] [.int (nI (1)), .ref 16384] _ [] rfl trivial ?_
    refine AR.callV1 (16384) [.int (nI (1))] [] lk_5_51 dc_X5_addCradle_25 rfl rfl (s_fails _ (nI (1)) ) (by first | rfl | (simp only [nI_add, pk_mul]; first | done | rfl)) rfl ?_
    have e2_0 : F_5addCradle b0 b1 nc = (nI (0)) := by rw [F_5addCradle, if_pos c11_1]
    have e2_1 : F_5addCradle_z b0 b1 nc z = z := by rw [F_5addCradle_z, if_pos c11_1]
    have e2_2 : F_5addCradle_ro b0 b1 nc s z ro = ro := by rw [F_5addCradle_ro, if_pos c11_1]
    have e2_3 : F_5addCradle_sv b0 b1 nc s sv = sv := by rw [F_5addCradle_sv, if_pos c11_1]
    have e2_4 : F_5addCradle_th b0 b1 nc = (nI (1)) := by rw [F_5addCradle_th, if_pos c11_1]
    exact AR.retI dc_X5_addCradle_28 rfl e2_0.symm (by rw [e2_1, e2_2, e2_3, e2_4])
  · refine AR.run g_X5_addCradle_14_3 17 [some (.ref 16384), some (.int (b0)), some (.int (b1)), none] [.int (nI (2)), .int (nI (0)), .int (b1)] _ [] rfl trivial ?_
    refine AR.callS1 [.int (b1), .int (nI (0)), .int (nI (2))] [] lk_5_44 dc_X5_addCradle_17 (s_within _ b1 (nI (0)) (nI (2)) ) (by first | rfl | (simp only [nI_add, pk_mul]; first | done | rfl)) rfl ?_
    refine AR.ne (tgt := 29) dc_X5_addCradle_20 (by decide) (fun c20_3 => ?_) (fun c20_3 => ?_)
    · refine AR.run g_X5_addCradle_29_3 34 [some (.ref 16384), some (.int (b0)), some (.int (b1)), none] [.int (nI (1)), .ref 16385] _ [] rfl trivial ?_
      refine AR.ald (n := 0) (e := 1) ok_X5_addCradle_34 (by first | rfl | (simp only [nI_add, pk_mul]; first | done | rfl)) rfl (by omega) (by first | decide | omega) ?_
      refine AR.top hZ.2.1.1 ?_
      refine AR.run g_X5_addCradle_35_1 36 [some (.ref 16384), some (.int (b0)), some (.int (b1)), none] [.int (nI (4)), .int (nI (nc))] _ [] rfl trivial ?_
      refine AR.ne2N (tgt := 45) (a := nc) (b := 4) dc_X5_addCradle_36 (by decide) (by first | rfl | (simp only [nI_add, pk_mul]; first | done | rfl)) (by first | rfl | (simp only [nI_add, pk_mul]; first | done | rfl)) (by omega) (by omega) (fun c36_4 => ?_) (fun c36_4 => ?_)
      · refine AR.run g_X5_addCradle_45_1 46 [some (.ref 16384), some (.int (b0)), some (.int (b1)), none] [.ref 16384] _ [] rfl trivial ?_
        refine AR.callV0 (16384) [] [] lk_5_55 dc_X5_addCradle_46 rfl rfl (s_5save _ (by assumption) (by omega)) (by first | rfl | (simp only [nI_add, pk_mul]; first | done | rfl)) rfl ?_
        refine AR.run g_X5_addCradle_49_5 57 [some (.ref 16384), some (.int (b0)), some (.int (b1)), none] [.int (nI (1)), .ref 16385, .int (nI (4)), .int (nI (95))] _ [] rfl trivial ?_
        refine AR.ald (n := 0) (e := 1) ok_X5_addCradle_57 (by first | rfl | (simp only [nI_add, pk_mul]; first | done | rfl)) rfl (by omega) (by first | decide | omega) ?_
        refine AR.top hZ.2.1.1 ?_
        refine AR.run g_X5_addCradle_58_9 69 [some (.ref 16384), some (.int (b0)), some (.int (b1)), some (.int ((nI (95)) + ((nI (4)) * (nI (nc)))))] [.int (b0), .int (((nI (95)) + ((nI (4)) * (nI (nc)))) + (nI (0))), .ref 16385] _ [] rfl trivial ?_
        refine AR.ast (n := 0) (e := ((95 + (4 * nc)) + 0)) (h1 := (hp o0 a0 t0 p0 (mo (upd z ((95 + (4 * nc)) + 0) b0) sa (svR z ro s) te fr to un ga pi be bm en sta (nI (svN s)) ln (nI (0)) hh) u0 l0)) ok_X5_addCradle_69 (by first | rfl | (simp only [nI_add, pk_mul]; first | done | rfl)) rfl rfl (by omega) (by decide) rfl ?_
        refine AR.run g_X5_addCradle_70_6 78 [some (.ref 16384), some (.int (b0)), some (.int (b1)), some (.int ((nI (95)) + ((nI (4)) * (nI (nc)))))] [.int (b1), .int (((nI (95)) + ((nI (4)) * (nI (nc)))) + (nI (1))), .ref 16385] _ [] rfl trivial ?_
        refine AR.ast (n := 0) (e := ((95 + (4 * nc)) + 1)) (h1 := (hp o0 a0 t0 p0 (mo (upd (upd z ((95 + (4 * nc)) + 0) b0) ((95 + (4 * nc)) + 1) b1) sa (svR z ro s) te fr to un ga pi be bm en sta (nI (svN s)) ln (nI (0)) hh) u0 l0)) ok_X5_addCradle_78 (by first | rfl | (simp only [nI_add, pk_mul]; first | done | rfl)) rfl rfl (by omega) (by decide) rfl ?_
        refine AR.run g_X5_addCradle_79_4 85 [some (.ref 16384), some (.int (b0)), some (.int (b1)), some (.int ((nI (95)) + ((nI (4)) * (nI (nc)))))] [.int (nI (1)), .ref 16385, .int (nI (1)), .ref 16385] _ [] rfl trivial ?_
        refine AR.ald (n := 0) (e := 1) ok_X5_addCradle_85 (by first | rfl | (simp only [nI_add, pk_mul]; first | done | rfl)) rfl (by omega) (by first | decide | omega) ?_
        refine AR.top (y := z 1) (by show (upd (upd z ((95 + (4 * nc)) + 0) b0) ((95 + (4 * nc)) + 1) b1) 1 = _; rw [rn (by omega), rn (by omega)]) ?_
        refine AR.top hZ.2.1.1 ?_
        refine AR.run g_X5_addCradle_86_2 88 [some (.ref 16384), some (.int (b0)), some (.int (b1)), some (.int ((nI (95)) + ((nI (4)) * (nI (nc)))))] [.int ((nI (nc)) + (nI (1))), .int (nI (1)), .ref 16385] _ [] rfl trivial ?_
        refine AR.top (y := nI ((nc + 1))) (by first | rfl | (simp only [nI_add, pk_mul]; first | done | rfl)) ?_
        refine AR.ast (n := 0) (e := 1) (h1 := (hp o0 a0 t0 p0 (mo (upd (upd (upd z ((95 + (4 * nc)) + 0) b0) ((95 + (4 * nc)) + 1) b1) 1 (nI ((nc + 1)))) sa (svR z ro s) te fr to un ga pi be bm en sta (nI (svN s)) ln (nI (0)) hh) u0 l0)) ok_X5_addCradle_88 (by first | rfl | (simp only [nI_add, pk_mul]; first | done | rfl)) rfl rfl (by omega) (by decide) rfl ?_
        refine AR.run g_X5_addCradle_89_3 94 [some (.ref 16384), some (.int (b0)), some (.int (b1)), some (.int ((nI (95)) + ((nI (4)) * (nI (nc)))))] [.int (nI (1)), .ref 16385] _ [] rfl trivial ?_
        refine AR.ald (n := 0) (e := 1) ok_X5_addCradle_94 (by first | rfl | (simp only [nI_add, pk_mul]; first | done | rfl)) rfl (by omega) (by first | decide | omega) ?_
        refine AR.top (y := nI ((nc + 1))) (by show (upd (upd (upd z ((95 + (4 * nc)) + 0) b0) ((95 + (4 * nc)) + 1) b1) 1 (nI ((nc + 1)))) 1 = _; rw [ru (by omega)]) ?_
        refine AR.run g_X5_addCradle_95_2 97 [some (.ref 16384), some (.int (b0)), some (.int (b1)), some (.int ((nI (95)) + ((nI (4)) * (nI (nc)))))] [.int ((nI ((nc + 1))) - (nI (1)))] _ [] rfl trivial ?_
        have e5_0 : F_5addCradle b0 b1 nc = ((nI ((nc + 1))) - (nI (1))) := by rw [F_5addCradle, if_neg c11_1, if_neg c20_3, if_neg (show ¬ (nc = 4) from by omega)]
        have e5_1 : F_5addCradle_z b0 b1 nc z = (upd (upd (upd z ((95 + (4 * nc)) + 0) b0) ((95 + (4 * nc)) + 1) b1) 1 (nI ((nc + 1)))) := by rw [F_5addCradle_z, if_neg c11_1, if_neg c20_3, if_neg (show ¬ (nc = 4) from by omega)]
        have e5_2 : F_5addCradle_ro b0 b1 nc s z ro = (svR z ro s) := by rw [F_5addCradle_ro, if_neg c11_1, if_neg c20_3, if_neg (show ¬ (nc = 4) from by omega)]
        have e5_3 : F_5addCradle_sv b0 b1 nc s sv = (nI (svN s)) := by rw [F_5addCradle_sv, if_neg c11_1, if_neg c20_3, if_neg (show ¬ (nc = 4) from by omega)]
        have e5_4 : F_5addCradle_th b0 b1 nc = (nI (0)) := by rw [F_5addCradle_th, if_neg c11_1, if_neg c20_3, if_neg (show ¬ (nc = 4) from by omega)]
        exact AR.retI dc_X5_addCradle_97 rfl e5_0.symm (by rw [e5_1, e5_2, e5_3, e5_4])
      · refine AR.run g_X5_addCradle_39_2 41 [some (.ref 16384), some (.int (b0)), some (.int (b1)), none] [.int (nI (2)), .ref 16384] _ [] rfl trivial ?_
        refine AR.callV1 (16384) [.int (nI (2))] [] lk_5_51 dc_X5_addCradle_41 rfl rfl (s_fails _ (nI (2)) ) (by first | rfl | (simp only [nI_add, pk_mul]; first | done | rfl)) rfl ?_
        have e6_0 : F_5addCradle b0 b1 nc = (nI (0)) := by rw [F_5addCradle, if_neg c11_1, if_neg c20_3, if_pos (show nc = 4 from by omega)]
        have e6_1 : F_5addCradle_z b0 b1 nc z = z := by rw [F_5addCradle_z, if_neg c11_1, if_neg c20_3, if_pos (show nc = 4 from by omega)]
        have e6_2 : F_5addCradle_ro b0 b1 nc s z ro = ro := by rw [F_5addCradle_ro, if_neg c11_1, if_neg c20_3, if_pos (show nc = 4 from by omega)]
        have e6_3 : F_5addCradle_sv b0 b1 nc s sv = sv := by rw [F_5addCradle_sv, if_neg c11_1, if_neg c20_3, if_pos (show nc = 4 from by omega)]
        have e6_4 : F_5addCradle_th b0 b1 nc = (nI (2)) := by rw [F_5addCradle_th, if_neg c11_1, if_neg c20_3, if_pos (show nc = 4 from by omega)]
        exact AR.retI dc_X5_addCradle_44 rfl e6_0.symm (by rw [e6_1, e6_2, e6_3, e6_4])
    · refine AR.run g_X5_addCradle_23_2 25 [some (.ref 16384), some (.int (b0)), some (.int (b1)), none] [.int (nI (1)), .ref 16384] _ [] rfl trivial ?_
      refine AR.callV1 (16384) [.int (nI (1))] [] lk_5_51 dc_X5_addCradle_25 rfl rfl (s_fails _ (nI (1)) ) (by first | rfl | (simp only [nI_add, pk_mul]; first | done | rfl)) rfl ?_
      have e7_0 : F_5addCradle b0 b1 nc = (nI (0)) := by rw [F_5addCradle, if_neg c11_1, if_pos c20_3]
      have e7_1 : F_5addCradle_z b0 b1 nc z = z := by rw [F_5addCradle_z, if_neg c11_1, if_pos c20_3]
      have e7_2 : F_5addCradle_ro b0 b1 nc s z ro = ro := by rw [F_5addCradle_ro, if_neg c11_1, if_pos c20_3]
      have e7_3 : F_5addCradle_sv b0 b1 nc s sv = sv := by rw [F_5addCradle_sv, if_neg c11_1, if_pos c20_3]
      have e7_4 : F_5addCradle_th b0 b1 nc = (nI (1)) := by rw [F_5addCradle_th, if_neg c11_1, if_pos c20_3]
      exact AR.retI dc_X5_addCradle_28 rfl e7_0.symm (by rw [e7_1, e7_2, e7_3, e7_4])
def F_5addCarrier (nr : Nat) : Int32 := if nr = 3 then (nI (0)) else ((nI ((nr + 1))) - (nI (1)))
def F_5addCarrier_z (nr : Nat) (z : Nat → Int32) : Nat → Int32 := if nr = 3 then z else (upd z 2 (nI ((nr + 1))))
def F_5addCarrier_ro (nr : Nat) (s : Nat) (z : Nat → Int32) (ro : Nat → Int32) : Nat → Int32 := if nr = 3 then ro else (svR z ro s)
def F_5addCarrier_sv (nr : Nat) (s : Nat) (sv : Int32) : Int32 := if nr = 3 then sv else (nI (svN s))
def F_5addCarrier_th (nr : Nat) : Int32 := if nr = 3 then (nI (1)) else (nI (0))
theorem g_X5_addCarrier_0_6 : ab_oks M_X5_addCarrier [(0, .aload_n 0, 1, 0, 0, 0, .null), (1, .iconst 0, 1, 0, 0, 0, .int (nI (0))), (2, .putfield 40, 3, 5, 15, 951, .null), (5, .aload_n 0, 1, 0, 0, 0, .null), (6, .getfield 7, 3, 5, 0, 936, .null), (9, .iconst 2, 1, 0, 0, 0, .int (nI (2)))] = true := by decide +kernel
theorem ok_X5_addCarrier_10 : ab_ok M_X5_addCarrier (10, .iaload, 1, 0, 0, 0, .null) = true := by decide +kernel
theorem g_X5_addCarrier_11_1 : ab_oks M_X5_addCarrier [(11, .iconst 3, 1, 0, 0, 0, .int (nI (3)))] = true := by decide +kernel
theorem dc_X5_addCarrier_12 : decode (AM.bytes M_X5_addCarrier) 12 = .ok (.if_icmp .ne 9, 3) := by decide +kernel
theorem g_X5_addCarrier_21_1 : ab_oks M_X5_addCarrier [(21, .aload_n 0, 1, 0, 0, 0, .null)] = true := by decide +kernel
theorem dc_X5_addCarrier_22 : decode (AM.bytes M_X5_addCarrier) 22 = .ok (.invokevirtual 55, 3) := by decide +kernel
theorem g_X5_addCarrier_25_4 : ab_oks M_X5_addCarrier [(25, .aload_n 0, 1, 0, 0, 0, .null), (26, .getfield 7, 3, 5, 0, 936, .null), (29, .iconst 2, 1, 0, 0, 0, .int (nI (2))), (30, .dup2, 1, 0, 0, 0, .null)] = true := by decide +kernel
theorem ok_X5_addCarrier_31 : ab_ok M_X5_addCarrier (31, .iaload, 1, 0, 0, 0, .null) = true := by decide +kernel
theorem g_X5_addCarrier_32_2 : ab_oks M_X5_addCarrier [(32, .iconst 1, 1, 0, 0, 0, .int (nI (1))), (33, .iadd, 1, 0, 0, 0, .null)] = true := by decide +kernel
theorem ok_X5_addCarrier_34 : ab_ok M_X5_addCarrier (34, .iastore, 1, 0, 0, 0, .null) = true := by decide +kernel
theorem g_X5_addCarrier_35_3 : ab_oks M_X5_addCarrier [(35, .aload_n 0, 1, 0, 0, 0, .null), (36, .getfield 7, 3, 5, 0, 936, .null), (39, .iconst 2, 1, 0, 0, 0, .int (nI (2)))] = true := by decide +kernel
theorem ok_X5_addCarrier_40 : ab_ok M_X5_addCarrier (40, .iaload, 1, 0, 0, 0, .null) = true := by decide +kernel
theorem g_X5_addCarrier_41_2 : ab_oks M_X5_addCarrier [(41, .iconst 1, 1, 0, 0, 0, .int (nI (1))), (42, .isub, 1, 0, 0, 0, .null)] = true := by decide +kernel
theorem dc_X5_addCarrier_43 : decode (AM.bytes M_X5_addCarrier) 43 = .ok (.ireturn, 1) := by decide +kernel
theorem g_X5_addCarrier_15_2 : ab_oks M_X5_addCarrier [(15, .aload_n 0, 1, 0, 0, 0, .null), (16, .iconst 1, 1, 0, 0, 0, .int (nI (1)))] = true := by decide +kernel
theorem dc_X5_addCarrier_17 : decode (AM.bytes M_X5_addCarrier) 17 = .ok (.invokevirtual 51, 3) := by decide +kernel
theorem dc_X5_addCarrier_20 : decode (AM.bytes M_X5_addCarrier) 20 = .ok (.ireturn, 1) := by decide +kernel
set_option maxRecDepth 100000 in
set_option maxHeartbeats 4000000 in
theorem s_5addCarrier {E : AE} (d : Nat) {nv : Nat} {nc : Nat} {nr : Nat} {ne : Nat} {s : Nat}  {o0 a0 t0 p0 u0 l0 : List AC} {z sa ro te fr to un ga pi be : Nat → Int32} {bm en sta sv ln th : Int32} {hh : Int64} (hZ : ZI z nv nc nr ne) (hs : sv = nI s) (hs6 : s ≤ 6) : CT E M_X5_addCarrier (d + 1) [.ref 16384] (hp o0 a0 t0 p0 (mo z sa ro te fr to un ga pi be bm en sta sv ln th hh) u0 l0) (.inl (some (.int (F_5addCarrier nr)))) (hp o0 a0 t0 p0 (mo (F_5addCarrier_z nr z) sa (F_5addCarrier_ro nr s z ro) te fr to un ga pi be bm en sta (F_5addCarrier_sv nr s sv) ln (F_5addCarrier_th nr) hh) u0 l0) 0 0 := by
  obtain ⟨⟨hnv, h12⟩, ⟨hnc, h4⟩, ⟨hnr, h3⟩, ⟨hne, h60⟩, hLV⟩ := id hZ
  refine CT.of (L := [some (.ref 16384)]) rfl rfl ?_
  refine AR.run g_X5_addCarrier_0_6 10 [some (.ref 16384)] [.int (nI (2)), .ref 16385] (hp o0 a0 t0 p0 (mo z sa ro te fr to un ga pi be bm en sta sv ln (nI (0)) hh) u0 l0) [] rfl trivial ?_
  refine AR.ald (n := 0) (e := 2) ok_X5_addCarrier_10 (by first | rfl | (simp only [nI_add, pk_mul]; first | done | rfl)) rfl (by omega) (by first | decide | omega) ?_
  refine AR.top hZ.2.2.1.1 ?_
  refine AR.run g_X5_addCarrier_11_1 12 [some (.ref 16384)] [.int (nI (3)), .int (nI (nr))] _ [] rfl trivial ?_
  refine AR.ne2N (tgt := 21) (a := nr) (b := 3) dc_X5_addCarrier_12 (by decide) (by first | rfl | (simp only [nI_add, pk_mul]; first | done | rfl)) (by first | rfl | (simp only [nI_add, pk_mul]; first | done | rfl)) (by omega) (by omega) (fun c12_1 => ?_) (fun c12_1 => ?_)
  · refine AR.run g_X5_addCarrier_21_1 22 [some (.ref 16384)] [.ref 16384] _ [] rfl trivial ?_
    refine AR.callV0 (16384) [] [] lk_5_55 dc_X5_addCarrier_22 rfl rfl (s_5save _ (by assumption) (by omega)) (by first | rfl | (simp only [nI_add, pk_mul]; first | done | rfl)) rfl ?_
    refine AR.run g_X5_addCarrier_25_4 31 [some (.ref 16384)] [.int (nI (2)), .ref 16385, .int (nI (2)), .ref 16385] _ [] rfl trivial ?_
    refine AR.ald (n := 0) (e := 2) ok_X5_addCarrier_31 (by first | rfl | (simp only [nI_add, pk_mul]; first | done | rfl)) rfl (by omega) (by first | decide | omega) ?_
    refine AR.top hZ.2.2.1.1 ?_
    refine AR.run g_X5_addCarrier_32_2 34 [some (.ref 16384)] [.int ((nI (nr)) + (nI (1))), .int (nI (2)), .ref 16385] _ [] rfl trivial ?_
    refine AR.top (y := nI ((nr + 1))) (by first | rfl | (simp only [nI_add, pk_mul]; first | done | rfl)) ?_
    refine AR.ast (n := 0) (e := 2) (h1 := (hp o0 a0 t0 p0 (mo (upd z 2 (nI ((nr + 1)))) sa (svR z ro s) te fr to un ga pi be bm en sta (nI (svN s)) ln (nI (0)) hh) u0 l0)) ok_X5_addCarrier_34 (by first | rfl | (simp only [nI_add, pk_mul]; first | done | rfl)) rfl rfl (by omega) (by decide) rfl ?_
    refine AR.run g_X5_addCarrier_35_3 40 [some (.ref 16384)] [.int (nI (2)), .ref 16385] _ [] rfl trivial ?_
    refine AR.ald (n := 0) (e := 2) ok_X5_addCarrier_40 (by first | rfl | (simp only [nI_add, pk_mul]; first | done | rfl)) rfl (by omega) (by first | decide | omega) ?_
    refine AR.top (y := nI ((nr + 1))) (by show (upd z 2 (nI ((nr + 1)))) 2 = _; rw [ru (by omega)]) ?_
    refine AR.run g_X5_addCarrier_41_2 43 [some (.ref 16384)] [.int ((nI ((nr + 1))) - (nI (1)))] _ [] rfl trivial ?_
    have e2_0 : F_5addCarrier nr = ((nI ((nr + 1))) - (nI (1))) := by rw [F_5addCarrier, if_neg (show ¬ (nr = 3) from by omega)]
    have e2_1 : F_5addCarrier_z nr z = (upd z 2 (nI ((nr + 1)))) := by rw [F_5addCarrier_z, if_neg (show ¬ (nr = 3) from by omega)]
    have e2_2 : F_5addCarrier_ro nr s z ro = (svR z ro s) := by rw [F_5addCarrier_ro, if_neg (show ¬ (nr = 3) from by omega)]
    have e2_3 : F_5addCarrier_sv nr s sv = (nI (svN s)) := by rw [F_5addCarrier_sv, if_neg (show ¬ (nr = 3) from by omega)]
    have e2_4 : F_5addCarrier_th nr = (nI (0)) := by rw [F_5addCarrier_th, if_neg (show ¬ (nr = 3) from by omega)]
    exact AR.retI dc_X5_addCarrier_43 rfl e2_0.symm (by rw [e2_1, e2_2, e2_3, e2_4])
  · refine AR.run g_X5_addCarrier_15_2 17 [some (.ref 16384)] [.int (nI (1)), .ref 16384] _ [] rfl trivial ?_
    refine AR.callV1 (16384) [.int (nI (1))] [] lk_5_51 dc_X5_addCarrier_17 rfl rfl (s_fails _ (nI (1)) ) (by first | rfl | (simp only [nI_add, pk_mul]; first | done | rfl)) rfl ?_
    have e3_0 : F_5addCarrier nr = (nI (0)) := by rw [F_5addCarrier, if_pos (show nr = 3 from by omega)]
    have e3_1 : F_5addCarrier_z nr z = z := by rw [F_5addCarrier_z, if_pos (show nr = 3 from by omega)]
    have e3_2 : F_5addCarrier_ro nr s z ro = ro := by rw [F_5addCarrier_ro, if_pos (show nr = 3 from by omega)]
    have e3_3 : F_5addCarrier_sv nr s sv = sv := by rw [F_5addCarrier_sv, if_pos (show nr = 3 from by omega)]
    have e3_4 : F_5addCarrier_th nr = (nI (1)) := by rw [F_5addCarrier_th, if_pos (show nr = 3 from by omega)]
    exact AR.retI dc_X5_addCarrier_20 rfl e3_0.symm (by rw [e3_1, e3_2, e3_3, e3_4])
def F_5setA : Int32 := (nI (0))
theorem F_5setA_01 : F_5setA  = nI 0 ∨ F_5setA  = nI 1 := by
  unfold F_5setA
  (repeat' split) <;> first | exact Or.inl rfl | exact Or.inr rfl | exact wi01 _ _ _
def F_5setA_th : Int32 := (nI (1))
theorem g_X5_set_0_6 : ab_oks M_X5_set [(0, .aload_n 0, 1, 0, 0, 0, .null), (1, .iconst 0, 1, 0, 0, 0, .int (nI (0))), (2, .putfield 40, 3, 5, 15, 951, .null), (5, .iload_n 1, 1, 1, 0, 0, .null), (6, .iconst 0, 1, 0, 0, 0, .int (nI (0))), (7, .iconst 3, 1, 0, 0, 0, .int (nI (3)))] = true := by decide +kernel
theorem dc_X5_set_8 : decode (AM.bytes M_X5_set) 8 = .ok (.invokestatic 44, 3) := by decide +kernel
theorem dc_X5_set_11 : decode (AM.bytes M_X5_set) 11 = .ok (.ifCond .ne 9, 3) := by decide +kernel
theorem g_X5_set_14_2 : ab_oks M_X5_set [(14, .aload_n 0, 1, 0, 0, 0, .null), (15, .iconst 1, 1, 0, 0, 0, .int (nI (1)))] = true := by decide +kernel
theorem dc_X5_set_16 : decode (AM.bytes M_X5_set) 16 = .ok (.invokevirtual 51, 3) := by decide +kernel
theorem dc_X5_set_19 : decode (AM.bytes M_X5_set) 19 = .ok (.ireturn, 1) := by decide +kernel
set_option maxRecDepth 100000 in
set_option maxHeartbeats 4000000 in
theorem s_5setA {E : AE} (d : Nat) (x : Int32) (v : Int32)  {o0 a0 t0 p0 u0 l0 : List AC} {z sa ro te fr to un ga pi be : Nat → Int32} {bm en sta sv ln th : Int32} {hh : Int64} (hx : wi x (nI 0) (nI 3) = nI 0) : CT E M_X5_set (d + 1) [.ref 16384, .int (x), .int (v)] (hp o0 a0 t0 p0 (mo z sa ro te fr to un ga pi be bm en sta sv ln th hh) u0 l0) (.inl (some (.int (F_5setA)))) (hp o0 a0 t0 p0 (mo z sa ro te fr to un ga pi be bm en sta sv ln F_5setA_th hh) u0 l0) 0 0 := by
  refine CT.of (L := [some (.ref 16384), some (.int (x)), some (.int (v)), none, none]) rfl rfl ?_
  refine AR.run g_X5_set_0_6 8 [some (.ref 16384), some (.int (x)), some (.int (v)), none, none] [.int (nI (3)), .int (nI (0)), .int (x)] (hp o0 a0 t0 p0 (mo z sa ro te fr to un ga pi be bm en sta sv ln (nI (0)) hh) u0 l0) [] rfl trivial ?_
  refine AR.callS1 [.int (x), .int (nI (0)), .int (nI (3))] [] lk_5_44 dc_X5_set_8 (s_within _ x (nI (0)) (nI (3)) ) (by first | rfl | (simp only [nI_add, pk_mul]; first | done | rfl)) rfl ?_
  refine AR.top hx ?_
  refine AR.neN (tgt := 20) (a := 0) dc_X5_set_11 (by decide) (by first | rfl | (simp only [nI_add, pk_mul]; first | done | rfl)) (by omega) (fun c11_1 => absurd c11_1 (by omega)) (fun c11_1 => ?_)
  refine AR.run g_X5_set_14_2 16 [some (.ref 16384), some (.int (x)), some (.int (v)), none, none] [.int (nI (1)), .ref 16384] _ [] rfl trivial ?_
  refine AR.callV1 (16384) [.int (nI (1))] [] lk_5_51 dc_X5_set_16 rfl rfl (s_fails _ (nI (1)) ) (by first | rfl | (simp only [nI_add, pk_mul]; first | done | rfl)) rfl ?_
  have e2_0 : F_5setA = (nI (0)) := by rw [F_5setA]
  have e2_1 : F_5setA_th = (nI (1)) := by rw [F_5setA_th]
  exact AR.retI dc_X5_set_19 rfl e2_0.symm (by rw [e2_1])
def F_5set (k : Nat) (v : Int32) (z : Nat → Int32) : Int32 := if k = 0 then if (wi v (nI (1)) (nI (9))) = 0 then (nI (0)) else (z (7 + k)) else if k = 1 then if (wi v (nI (0)) (nI (9))) = 0 then (nI (0)) else (z (7 + k)) else if k = 2 then if (wi v (nI (1)) (nI (200))) = 0 then (nI (0)) else (z (7 + k)) else if (wi v (nI (0)) (nI (5))) = 0 then (nI (0)) else (z (7 + k))
def F_5set_z (k : Nat) (v : Int32) (z : Nat → Int32) : Nat → Int32 := if k = 0 then if (wi v (nI (1)) (nI (9))) = 0 then z else (upd z (7 + k) v) else if k = 1 then if (wi v (nI (0)) (nI (9))) = 0 then z else (upd z (7 + k) v) else if k = 2 then if (wi v (nI (1)) (nI (200))) = 0 then z else (upd z (7 + k) v) else if (wi v (nI (0)) (nI (5))) = 0 then z else (upd z (7 + k) v)
def F_5set_ro (k : Nat) (v : Int32) (s : Nat) (z : Nat → Int32) (ro : Nat → Int32) : Nat → Int32 := if k = 0 then if (wi v (nI (1)) (nI (9))) = 0 then ro else (svR z ro s) else if k = 1 then if (wi v (nI (0)) (nI (9))) = 0 then ro else (svR z ro s) else if k = 2 then if (wi v (nI (1)) (nI (200))) = 0 then ro else (svR z ro s) else if (wi v (nI (0)) (nI (5))) = 0 then ro else (svR z ro s)
def F_5set_sv (k : Nat) (v : Int32) (s : Nat) (sv : Int32) : Int32 := if k = 0 then if (wi v (nI (1)) (nI (9))) = 0 then sv else (nI (svN s)) else if k = 1 then if (wi v (nI (0)) (nI (9))) = 0 then sv else (nI (svN s)) else if k = 2 then if (wi v (nI (1)) (nI (200))) = 0 then sv else (nI (svN s)) else if (wi v (nI (0)) (nI (5))) = 0 then sv else (nI (svN s))
def F_5set_th (k : Nat) (v : Int32) : Int32 := if k = 0 then if (wi v (nI (1)) (nI (9))) = 0 then (nI (2)) else (nI (0)) else if k = 1 then if (wi v (nI (0)) (nI (9))) = 0 then (nI (2)) else (nI (0)) else if k = 2 then if (wi v (nI (1)) (nI (200))) = 0 then (nI (2)) else (nI (0)) else if (wi v (nI (0)) (nI (5))) = 0 then (nI (2)) else (nI (0))
theorem g_X5_set_20_1 : ab_oks M_X5_set [(20, .iload_n 1, 1, 1, 0, 0, .null)] = true := by decide +kernel
theorem dc_X5_set_21 : decode (AM.bytes M_X5_set) 21 = .ok (.ifCond .ne 13, 3) := by decide +kernel
theorem g_X5_set_34_2 : ab_oks M_X5_set [(34, .iload_n 1, 1, 1, 0, 0, .null), (35, .iconst 1, 1, 0, 0, 0, .int (nI (1)))] = true := by decide +kernel
theorem dc_X5_set_36 : decode (AM.bytes M_X5_set) 36 = .ok (.if_icmp .ne 13, 3) := by decide +kernel
theorem g_X5_set_49_2 : ab_oks M_X5_set [(49, .iload_n 1, 1, 1, 0, 0, .null), (50, .iconst 2, 1, 0, 0, 0, .int (nI (2)))] = true := by decide +kernel
theorem dc_X5_set_51 : decode (AM.bytes M_X5_set) 51 = .ok (.if_icmp .ne 14, 3) := by decide +kernel
theorem g_X5_set_65_3 : ab_oks M_X5_set [(65, .iload_n 2, 1, 2, 0, 0, .null), (66, .iconst 0, 1, 0, 0, 0, .int (nI (0))), (67, .iconst 5, 1, 0, 0, 0, .int (nI (5)))] = true := by decide +kernel
theorem dc_X5_set_68 : decode (AM.bytes M_X5_set) 68 = .ok (.invokestatic 44, 3) := by decide +kernel
theorem g_X5_set_71_2 : ab_oks M_X5_set [(71, .istore_n 3, 1, 3, 0, 0, .null), (72, .iload_n 3, 1, 3, 0, 0, .null)] = true := by decide +kernel
theorem dc_X5_set_73 : decode (AM.bytes M_X5_set) 73 = .ok (.ifCond .ne 9, 3) := by decide +kernel
theorem g_X5_set_82_1 : ab_oks M_X5_set [(82, .aload_n 0, 1, 0, 0, 0, .null)] = true := by decide +kernel
theorem dc_X5_set_83 : decode (AM.bytes M_X5_set) 83 = .ok (.invokevirtual 55, 3) := by decide +kernel
theorem g_X5_set_86_5 : ab_oks M_X5_set [(86, .aload_n 0, 1, 0, 0, 0, .null), (87, .getfield 7, 3, 5, 0, 936, .null), (90, .bipush 7, 2, 0, 0, 0, .int (nI (7))), (92, .iload_n 1, 1, 1, 0, 0, .null), (93, .iadd, 1, 0, 0, 0, .null)] = true := by decide +kernel
theorem ok_X5_set_94 : ab_ok M_X5_set (94, .iaload, 1, 0, 0, 0, .null) = true := by decide +kernel
theorem g_X5_set_95_7 : ab_oks M_X5_set [(95, .istore 4, 2, 4, 0, 0, .null), (97, .aload_n 0, 1, 0, 0, 0, .null), (98, .getfield 7, 3, 5, 0, 936, .null), (101, .bipush 7, 2, 0, 0, 0, .int (nI (7))), (103, .iload_n 1, 1, 1, 0, 0, .null), (104, .iadd, 1, 0, 0, 0, .null), (105, .iload_n 2, 1, 2, 0, 0, .null)] = true := by decide +kernel
theorem ok_X5_set_106 : ab_ok M_X5_set (106, .iastore, 1, 0, 0, 0, .null) = true := by decide +kernel
theorem g_X5_set_107_1 : ab_oks M_X5_set [(107, .iload 4, 2, 4, 0, 0, .null)] = true := by decide +kernel
theorem dc_X5_set_109 : decode (AM.bytes M_X5_set) 109 = .ok (.ireturn, 1) := by decide +kernel
theorem g_X5_set_76_2 : ab_oks M_X5_set [(76, .aload_n 0, 1, 0, 0, 0, .null), (77, .iconst 2, 1, 0, 0, 0, .int (nI (2)))] = true := by decide +kernel
theorem dc_X5_set_78 : decode (AM.bytes M_X5_set) 78 = .ok (.invokevirtual 51, 3) := by decide +kernel
theorem dc_X5_set_81 : decode (AM.bytes M_X5_set) 81 = .ok (.ireturn, 1) := by decide +kernel
theorem g_X5_set_54_3 : ab_oks M_X5_set [(54, .iload_n 2, 1, 2, 0, 0, .null), (55, .iconst 1, 1, 0, 0, 0, .int (nI (1))), (56, .sipush 200, 3, 0, 0, 0, .int (nI (200)))] = true := by decide +kernel
theorem dc_X5_set_59 : decode (AM.bytes M_X5_set) 59 = .ok (.invokestatic 44, 3) := by decide +kernel
theorem g_X5_set_62_3 : ab_oks M_X5_set [(62, .goto 9, 3, 71, 0, 0, .null), (71, .istore_n 3, 1, 3, 0, 0, .null), (72, .iload_n 3, 1, 3, 0, 0, .null)] = true := by decide +kernel
theorem g_X5_set_39_3 : ab_oks M_X5_set [(39, .iload_n 2, 1, 2, 0, 0, .null), (40, .iconst 0, 1, 0, 0, 0, .int (nI (0))), (41, .bipush 9, 2, 0, 0, 0, .int (nI (9)))] = true := by decide +kernel
theorem dc_X5_set_43 : decode (AM.bytes M_X5_set) 43 = .ok (.invokestatic 44, 3) := by decide +kernel
theorem g_X5_set_46_3 : ab_oks M_X5_set [(46, .goto 25, 3, 71, 0, 0, .null), (71, .istore_n 3, 1, 3, 0, 0, .null), (72, .iload_n 3, 1, 3, 0, 0, .null)] = true := by decide +kernel
theorem g_X5_set_24_3 : ab_oks M_X5_set [(24, .iload_n 2, 1, 2, 0, 0, .null), (25, .iconst 1, 1, 0, 0, 0, .int (nI (1))), (26, .bipush 9, 2, 0, 0, 0, .int (nI (9)))] = true := by decide +kernel
theorem dc_X5_set_28 : decode (AM.bytes M_X5_set) 28 = .ok (.invokestatic 44, 3) := by decide +kernel
theorem g_X5_set_31_3 : ab_oks M_X5_set [(31, .goto 40, 3, 71, 0, 0, .null), (71, .istore_n 3, 1, 3, 0, 0, .null), (72, .iload_n 3, 1, 3, 0, 0, .null)] = true := by decide +kernel
set_option maxRecDepth 100000 in
set_option maxHeartbeats 4000000 in
theorem s_5set {E : AE} (d : Nat) (k : Nat) (v : Int32) {nv : Nat} {nc : Nat} {nr : Nat} {ne : Nat} {s : Nat}  {o0 a0 t0 p0 u0 l0 : List AC} {z sa ro te fr to un ga pi be : Nat → Int32} {bm en sta sv ln th : Int32} {hh : Int64} (hZ : ZI z nv nc nr ne) (hs : sv = nI s) (hs6 : s ≤ 6) (hk : k < 4) : CT E M_X5_set (d + 1) [.ref 16384, .int (nI (k)), .int (v)] (hp o0 a0 t0 p0 (mo z sa ro te fr to un ga pi be bm en sta sv ln th hh) u0 l0) (.inl (some (.int (F_5set k v z)))) (hp o0 a0 t0 p0 (mo (F_5set_z k v z) sa (F_5set_ro k v s z ro) te fr to un ga pi be bm en sta (F_5set_sv k v s sv) ln (F_5set_th k v) hh) u0 l0) 0 0 := by
  obtain ⟨⟨hnv, h12⟩, ⟨hnc, h4⟩, ⟨hnr, h3⟩, ⟨hne, h60⟩, hLV⟩ := id hZ
  refine CT.of (L := [some (.ref 16384), some (.int (nI (k))), some (.int (v)), none, none]) rfl rfl ?_
  refine AR.run g_X5_set_0_6 8 [some (.ref 16384), some (.int (nI (k))), some (.int (v)), none, none] [.int (nI (3)), .int (nI (0)), .int (nI (k))] (hp o0 a0 t0 p0 (mo z sa ro te fr to un ga pi be bm en sta sv ln (nI (0)) hh) u0 l0) [] rfl trivial ?_
  refine AR.callS1 [.int (nI (k)), .int (nI (0)), .int (nI (3))] [] lk_5_44 dc_X5_set_8 (s_within _ (nI (k)) (nI (0)) (nI (3)) ) (by first | rfl | (simp only [nI_add, pk_mul]; first | done | rfl)) rfl ?_
  refine AR.top (wiN_t (by omega) (by omega) (by decide)) ?_
  refine AR.neN (tgt := 20) (a := 1) dc_X5_set_11 (by decide) (by first | rfl | (simp only [nI_add, pk_mul]; first | done | rfl)) (by omega) (fun c11_1 => ?_) (fun c11_1 => absurd c11_1 (by omega))
  refine AR.run g_X5_set_20_1 21 [some (.ref 16384), some (.int (nI (k))), some (.int (v)), none, none] [.int (nI (k))] _ [] rfl trivial ?_
  refine AR.neN (tgt := 34) (a := k) dc_X5_set_21 (by decide) (by first | rfl | (simp only [nI_add, pk_mul]; first | done | rfl)) (by omega) (fun c21_2 => ?_) (fun c21_2 => ?_)
  · refine AR.run g_X5_set_34_2 36 [some (.ref 16384), some (.int (nI (k))), some (.int (v)), none, none] [.int (nI (1)), .int (nI (k))] _ [] rfl trivial ?_
    refine AR.ne2N (tgt := 49) (a := k) (b := 1) dc_X5_set_36 (by decide) (by first | rfl | (simp only [nI_add, pk_mul]; first | done | rfl)) (by first | rfl | (simp only [nI_add, pk_mul]; first | done | rfl)) (by omega) (by omega) (fun c36_3 => ?_) (fun c36_3 => ?_)
    · refine AR.run g_X5_set_49_2 51 [some (.ref 16384), some (.int (nI (k))), some (.int (v)), none, none] [.int (nI (2)), .int (nI (k))] _ [] rfl trivial ?_
      refine AR.ne2N (tgt := 65) (a := k) (b := 2) dc_X5_set_51 (by decide) (by first | rfl | (simp only [nI_add, pk_mul]; first | done | rfl)) (by first | rfl | (simp only [nI_add, pk_mul]; first | done | rfl)) (by omega) (by omega) (fun c51_4 => ?_) (fun c51_4 => ?_)
      · refine AR.run g_X5_set_65_3 68 [some (.ref 16384), some (.int (nI (k))), some (.int (v)), none, none] [.int (nI (5)), .int (nI (0)), .int (v)] _ [] rfl trivial ?_
        refine AR.callS1 [.int (v), .int (nI (0)), .int (nI (5))] [] lk_5_44 dc_X5_set_68 (s_within _ v (nI (0)) (nI (5)) ) (by first | rfl | (simp only [nI_add, pk_mul]; first | done | rfl)) rfl ?_
        refine AR.run g_X5_set_71_2 73 [some (.ref 16384), some (.int (nI (k))), some (.int (v)), some (.int (wi v (nI (0)) (nI (5)))), none] [.int (wi v (nI (0)) (nI (5)))] _ [] rfl trivial ?_
        refine AR.ne (tgt := 82) dc_X5_set_73 (by decide) (fun c73_5 => ?_) (fun c73_5 => ?_)
        · refine AR.run g_X5_set_82_1 83 [some (.ref 16384), some (.int (nI (k))), some (.int (v)), some (.int (wi v (nI (0)) (nI (5)))), none] [.ref 16384] _ [] rfl trivial ?_
          refine AR.callV0 (16384) [] [] lk_5_55 dc_X5_set_83 rfl rfl (s_5save _ (by assumption) (by omega)) (by first | rfl | (simp only [nI_add, pk_mul]; first | done | rfl)) rfl ?_
          refine AR.run g_X5_set_86_5 94 [some (.ref 16384), some (.int (nI (k))), some (.int (v)), some (.int (wi v (nI (0)) (nI (5)))), none] [.int ((nI (7)) + (nI (k))), .ref 16385] _ [] rfl trivial ?_
          refine AR.ald (n := 0) (e := (7 + k)) ok_X5_set_94 (by first | rfl | (simp only [nI_add, pk_mul]; first | done | rfl)) rfl (by omega) (by first | decide | omega) ?_
          refine AR.run g_X5_set_95_7 106 [some (.ref 16384), some (.int (nI (k))), some (.int (v)), some (.int (wi v (nI (0)) (nI (5)))), some (.int (z (7 + k)))] [.int (v), .int ((nI (7)) + (nI (k))), .ref 16385] _ [] rfl trivial ?_
          refine AR.ast (n := 0) (e := (7 + k)) (h1 := (hp o0 a0 t0 p0 (mo (upd z (7 + k) v) sa (svR z ro s) te fr to un ga pi be bm en sta (nI (svN s)) ln (nI (0)) hh) u0 l0)) ok_X5_set_106 (by first | rfl | (simp only [nI_add, pk_mul]; first | done | rfl)) rfl rfl (by omega) (by decide) rfl ?_
          refine AR.run g_X5_set_107_1 109 [some (.ref 16384), some (.int (nI (k))), some (.int (v)), some (.int (wi v (nI (0)) (nI (5)))), some (.int (z (7 + k)))] [.int (z (7 + k))] _ [] rfl trivial ?_
          have e6_0 : F_5set k v z = (z (7 + k)) := by rw [F_5set, if_neg (show ¬ (k = 0) from by omega), if_neg (show ¬ (k = 1) from by omega), if_neg (show ¬ (k = 2) from by omega), if_neg c73_5]
          have e6_1 : F_5set_z k v z = (upd z (7 + k) v) := by rw [F_5set_z, if_neg (show ¬ (k = 0) from by omega), if_neg (show ¬ (k = 1) from by omega), if_neg (show ¬ (k = 2) from by omega), if_neg c73_5]
          have e6_2 : F_5set_ro k v s z ro = (svR z ro s) := by rw [F_5set_ro, if_neg (show ¬ (k = 0) from by omega), if_neg (show ¬ (k = 1) from by omega), if_neg (show ¬ (k = 2) from by omega), if_neg c73_5]
          have e6_3 : F_5set_sv k v s sv = (nI (svN s)) := by rw [F_5set_sv, if_neg (show ¬ (k = 0) from by omega), if_neg (show ¬ (k = 1) from by omega), if_neg (show ¬ (k = 2) from by omega), if_neg c73_5]
          have e6_4 : F_5set_th k v = (nI (0)) := by rw [F_5set_th, if_neg (show ¬ (k = 0) from by omega), if_neg (show ¬ (k = 1) from by omega), if_neg (show ¬ (k = 2) from by omega), if_neg c73_5]
          exact AR.retI dc_X5_set_109 rfl e6_0.symm (by rw [e6_1, e6_2, e6_3, e6_4])
        · refine AR.run g_X5_set_76_2 78 [some (.ref 16384), some (.int (nI (k))), some (.int (v)), some (.int (wi v (nI (0)) (nI (5)))), none] [.int (nI (2)), .ref 16384] _ [] rfl trivial ?_
          refine AR.callV1 (16384) [.int (nI (2))] [] lk_5_51 dc_X5_set_78 rfl rfl (s_fails _ (nI (2)) ) (by first | rfl | (simp only [nI_add, pk_mul]; first | done | rfl)) rfl ?_
          have e7_0 : F_5set k v z = (nI (0)) := by rw [F_5set, if_neg (show ¬ (k = 0) from by omega), if_neg (show ¬ (k = 1) from by omega), if_neg (show ¬ (k = 2) from by omega), if_pos c73_5]
          have e7_1 : F_5set_z k v z = z := by rw [F_5set_z, if_neg (show ¬ (k = 0) from by omega), if_neg (show ¬ (k = 1) from by omega), if_neg (show ¬ (k = 2) from by omega), if_pos c73_5]
          have e7_2 : F_5set_ro k v s z ro = ro := by rw [F_5set_ro, if_neg (show ¬ (k = 0) from by omega), if_neg (show ¬ (k = 1) from by omega), if_neg (show ¬ (k = 2) from by omega), if_pos c73_5]
          have e7_3 : F_5set_sv k v s sv = sv := by rw [F_5set_sv, if_neg (show ¬ (k = 0) from by omega), if_neg (show ¬ (k = 1) from by omega), if_neg (show ¬ (k = 2) from by omega), if_pos c73_5]
          have e7_4 : F_5set_th k v = (nI (2)) := by rw [F_5set_th, if_neg (show ¬ (k = 0) from by omega), if_neg (show ¬ (k = 1) from by omega), if_neg (show ¬ (k = 2) from by omega), if_pos c73_5]
          exact AR.retI dc_X5_set_81 rfl e7_0.symm (by rw [e7_1, e7_2, e7_3, e7_4])
      · refine AR.run g_X5_set_54_3 59 [some (.ref 16384), some (.int (nI (k))), some (.int (v)), none, none] [.int (nI (200)), .int (nI (1)), .int (v)] _ [] rfl trivial ?_
        refine AR.callS1 [.int (v), .int (nI (1)), .int (nI (200))] [] lk_5_44 dc_X5_set_59 (s_within _ v (nI (1)) (nI (200)) ) (by first | rfl | (simp only [nI_add, pk_mul]; first | done | rfl)) rfl ?_
        refine AR.run g_X5_set_62_3 73 [some (.ref 16384), some (.int (nI (k))), some (.int (v)), some (.int (wi v (nI (1)) (nI (200)))), none] [.int (wi v (nI (1)) (nI (200)))] _ [] rfl trivial ?_
        refine AR.ne (tgt := 82) dc_X5_set_73 (by decide) (fun c73_8 => ?_) (fun c73_8 => ?_)
        · refine AR.run g_X5_set_82_1 83 [some (.ref 16384), some (.int (nI (k))), some (.int (v)), some (.int (wi v (nI (1)) (nI (200)))), none] [.ref 16384] _ [] rfl trivial ?_
          refine AR.callV0 (16384) [] [] lk_5_55 dc_X5_set_83 rfl rfl (s_5save _ (by assumption) (by omega)) (by first | rfl | (simp only [nI_add, pk_mul]; first | done | rfl)) rfl ?_
          refine AR.run g_X5_set_86_5 94 [some (.ref 16384), some (.int (nI (k))), some (.int (v)), some (.int (wi v (nI (1)) (nI (200)))), none] [.int ((nI (7)) + (nI (k))), .ref 16385] _ [] rfl trivial ?_
          refine AR.ald (n := 0) (e := (7 + k)) ok_X5_set_94 (by first | rfl | (simp only [nI_add, pk_mul]; first | done | rfl)) rfl (by omega) (by first | decide | omega) ?_
          refine AR.run g_X5_set_95_7 106 [some (.ref 16384), some (.int (nI (k))), some (.int (v)), some (.int (wi v (nI (1)) (nI (200)))), some (.int (z (7 + k)))] [.int (v), .int ((nI (7)) + (nI (k))), .ref 16385] _ [] rfl trivial ?_
          refine AR.ast (n := 0) (e := (7 + k)) (h1 := (hp o0 a0 t0 p0 (mo (upd z (7 + k) v) sa (svR z ro s) te fr to un ga pi be bm en sta (nI (svN s)) ln (nI (0)) hh) u0 l0)) ok_X5_set_106 (by first | rfl | (simp only [nI_add, pk_mul]; first | done | rfl)) rfl rfl (by omega) (by decide) rfl ?_
          refine AR.run g_X5_set_107_1 109 [some (.ref 16384), some (.int (nI (k))), some (.int (v)), some (.int (wi v (nI (1)) (nI (200)))), some (.int (z (7 + k)))] [.int (z (7 + k))] _ [] rfl trivial ?_
          have e9_0 : F_5set k v z = (z (7 + k)) := by rw [F_5set, if_neg (show ¬ (k = 0) from by omega), if_neg (show ¬ (k = 1) from by omega), if_pos (show k = 2 from by omega), if_neg c73_8]
          have e9_1 : F_5set_z k v z = (upd z (7 + k) v) := by rw [F_5set_z, if_neg (show ¬ (k = 0) from by omega), if_neg (show ¬ (k = 1) from by omega), if_pos (show k = 2 from by omega), if_neg c73_8]
          have e9_2 : F_5set_ro k v s z ro = (svR z ro s) := by rw [F_5set_ro, if_neg (show ¬ (k = 0) from by omega), if_neg (show ¬ (k = 1) from by omega), if_pos (show k = 2 from by omega), if_neg c73_8]
          have e9_3 : F_5set_sv k v s sv = (nI (svN s)) := by rw [F_5set_sv, if_neg (show ¬ (k = 0) from by omega), if_neg (show ¬ (k = 1) from by omega), if_pos (show k = 2 from by omega), if_neg c73_8]
          have e9_4 : F_5set_th k v = (nI (0)) := by rw [F_5set_th, if_neg (show ¬ (k = 0) from by omega), if_neg (show ¬ (k = 1) from by omega), if_pos (show k = 2 from by omega), if_neg c73_8]
          exact AR.retI dc_X5_set_109 rfl e9_0.symm (by rw [e9_1, e9_2, e9_3, e9_4])
        · refine AR.run g_X5_set_76_2 78 [some (.ref 16384), some (.int (nI (k))), some (.int (v)), some (.int (wi v (nI (1)) (nI (200)))), none] [.int (nI (2)), .ref 16384] _ [] rfl trivial ?_
          refine AR.callV1 (16384) [.int (nI (2))] [] lk_5_51 dc_X5_set_78 rfl rfl (s_fails _ (nI (2)) ) (by first | rfl | (simp only [nI_add, pk_mul]; first | done | rfl)) rfl ?_
          have e10_0 : F_5set k v z = (nI (0)) := by rw [F_5set, if_neg (show ¬ (k = 0) from by omega), if_neg (show ¬ (k = 1) from by omega), if_pos (show k = 2 from by omega), if_pos c73_8]
          have e10_1 : F_5set_z k v z = z := by rw [F_5set_z, if_neg (show ¬ (k = 0) from by omega), if_neg (show ¬ (k = 1) from by omega), if_pos (show k = 2 from by omega), if_pos c73_8]
          have e10_2 : F_5set_ro k v s z ro = ro := by rw [F_5set_ro, if_neg (show ¬ (k = 0) from by omega), if_neg (show ¬ (k = 1) from by omega), if_pos (show k = 2 from by omega), if_pos c73_8]
          have e10_3 : F_5set_sv k v s sv = sv := by rw [F_5set_sv, if_neg (show ¬ (k = 0) from by omega), if_neg (show ¬ (k = 1) from by omega), if_pos (show k = 2 from by omega), if_pos c73_8]
          have e10_4 : F_5set_th k v = (nI (2)) := by rw [F_5set_th, if_neg (show ¬ (k = 0) from by omega), if_neg (show ¬ (k = 1) from by omega), if_pos (show k = 2 from by omega), if_pos c73_8]
          exact AR.retI dc_X5_set_81 rfl e10_0.symm (by rw [e10_1, e10_2, e10_3, e10_4])
    · refine AR.run g_X5_set_39_3 43 [some (.ref 16384), some (.int (nI (k))), some (.int (v)), none, none] [.int (nI (9)), .int (nI (0)), .int (v)] _ [] rfl trivial ?_
      refine AR.callS1 [.int (v), .int (nI (0)), .int (nI (9))] [] lk_5_44 dc_X5_set_43 (s_within _ v (nI (0)) (nI (9)) ) (by first | rfl | (simp only [nI_add, pk_mul]; first | done | rfl)) rfl ?_
      refine AR.run g_X5_set_46_3 73 [some (.ref 16384), some (.int (nI (k))), some (.int (v)), some (.int (wi v (nI (0)) (nI (9)))), none] [.int (wi v (nI (0)) (nI (9)))] _ [] rfl trivial ?_
      refine AR.ne (tgt := 82) dc_X5_set_73 (by decide) (fun c73_11 => ?_) (fun c73_11 => ?_)
      · refine AR.run g_X5_set_82_1 83 [some (.ref 16384), some (.int (nI (k))), some (.int (v)), some (.int (wi v (nI (0)) (nI (9)))), none] [.ref 16384] _ [] rfl trivial ?_
        refine AR.callV0 (16384) [] [] lk_5_55 dc_X5_set_83 rfl rfl (s_5save _ (by assumption) (by omega)) (by first | rfl | (simp only [nI_add, pk_mul]; first | done | rfl)) rfl ?_
        refine AR.run g_X5_set_86_5 94 [some (.ref 16384), some (.int (nI (k))), some (.int (v)), some (.int (wi v (nI (0)) (nI (9)))), none] [.int ((nI (7)) + (nI (k))), .ref 16385] _ [] rfl trivial ?_
        refine AR.ald (n := 0) (e := (7 + k)) ok_X5_set_94 (by first | rfl | (simp only [nI_add, pk_mul]; first | done | rfl)) rfl (by omega) (by first | decide | omega) ?_
        refine AR.run g_X5_set_95_7 106 [some (.ref 16384), some (.int (nI (k))), some (.int (v)), some (.int (wi v (nI (0)) (nI (9)))), some (.int (z (7 + k)))] [.int (v), .int ((nI (7)) + (nI (k))), .ref 16385] _ [] rfl trivial ?_
        refine AR.ast (n := 0) (e := (7 + k)) (h1 := (hp o0 a0 t0 p0 (mo (upd z (7 + k) v) sa (svR z ro s) te fr to un ga pi be bm en sta (nI (svN s)) ln (nI (0)) hh) u0 l0)) ok_X5_set_106 (by first | rfl | (simp only [nI_add, pk_mul]; first | done | rfl)) rfl rfl (by omega) (by decide) rfl ?_
        refine AR.run g_X5_set_107_1 109 [some (.ref 16384), some (.int (nI (k))), some (.int (v)), some (.int (wi v (nI (0)) (nI (9)))), some (.int (z (7 + k)))] [.int (z (7 + k))] _ [] rfl trivial ?_
        have e12_0 : F_5set k v z = (z (7 + k)) := by rw [F_5set, if_neg (show ¬ (k = 0) from by omega), if_pos (show k = 1 from by omega), if_neg c73_11]
        have e12_1 : F_5set_z k v z = (upd z (7 + k) v) := by rw [F_5set_z, if_neg (show ¬ (k = 0) from by omega), if_pos (show k = 1 from by omega), if_neg c73_11]
        have e12_2 : F_5set_ro k v s z ro = (svR z ro s) := by rw [F_5set_ro, if_neg (show ¬ (k = 0) from by omega), if_pos (show k = 1 from by omega), if_neg c73_11]
        have e12_3 : F_5set_sv k v s sv = (nI (svN s)) := by rw [F_5set_sv, if_neg (show ¬ (k = 0) from by omega), if_pos (show k = 1 from by omega), if_neg c73_11]
        have e12_4 : F_5set_th k v = (nI (0)) := by rw [F_5set_th, if_neg (show ¬ (k = 0) from by omega), if_pos (show k = 1 from by omega), if_neg c73_11]
        exact AR.retI dc_X5_set_109 rfl e12_0.symm (by rw [e12_1, e12_2, e12_3, e12_4])
      · refine AR.run g_X5_set_76_2 78 [some (.ref 16384), some (.int (nI (k))), some (.int (v)), some (.int (wi v (nI (0)) (nI (9)))), none] [.int (nI (2)), .ref 16384] _ [] rfl trivial ?_
        refine AR.callV1 (16384) [.int (nI (2))] [] lk_5_51 dc_X5_set_78 rfl rfl (s_fails _ (nI (2)) ) (by first | rfl | (simp only [nI_add, pk_mul]; first | done | rfl)) rfl ?_
        have e13_0 : F_5set k v z = (nI (0)) := by rw [F_5set, if_neg (show ¬ (k = 0) from by omega), if_pos (show k = 1 from by omega), if_pos c73_11]
        have e13_1 : F_5set_z k v z = z := by rw [F_5set_z, if_neg (show ¬ (k = 0) from by omega), if_pos (show k = 1 from by omega), if_pos c73_11]
        have e13_2 : F_5set_ro k v s z ro = ro := by rw [F_5set_ro, if_neg (show ¬ (k = 0) from by omega), if_pos (show k = 1 from by omega), if_pos c73_11]
        have e13_3 : F_5set_sv k v s sv = sv := by rw [F_5set_sv, if_neg (show ¬ (k = 0) from by omega), if_pos (show k = 1 from by omega), if_pos c73_11]
        have e13_4 : F_5set_th k v = (nI (2)) := by rw [F_5set_th, if_neg (show ¬ (k = 0) from by omega), if_pos (show k = 1 from by omega), if_pos c73_11]
        exact AR.retI dc_X5_set_81 rfl e13_0.symm (by rw [e13_1, e13_2, e13_3, e13_4])
  · refine AR.run g_X5_set_24_3 28 [some (.ref 16384), some (.int (nI (k))), some (.int (v)), none, none] [.int (nI (9)), .int (nI (1)), .int (v)] _ [] rfl trivial ?_
    refine AR.callS1 [.int (v), .int (nI (1)), .int (nI (9))] [] lk_5_44 dc_X5_set_28 (s_within _ v (nI (1)) (nI (9)) ) (by first | rfl | (simp only [nI_add, pk_mul]; first | done | rfl)) rfl ?_
    refine AR.run g_X5_set_31_3 73 [some (.ref 16384), some (.int (nI (k))), some (.int (v)), some (.int (wi v (nI (1)) (nI (9)))), none] [.int (wi v (nI (1)) (nI (9)))] _ [] rfl trivial ?_
    refine AR.ne (tgt := 82) dc_X5_set_73 (by decide) (fun c73_14 => ?_) (fun c73_14 => ?_)
    · refine AR.run g_X5_set_82_1 83 [some (.ref 16384), some (.int (nI (k))), some (.int (v)), some (.int (wi v (nI (1)) (nI (9)))), none] [.ref 16384] _ [] rfl trivial ?_
      refine AR.callV0 (16384) [] [] lk_5_55 dc_X5_set_83 rfl rfl (s_5save _ (by assumption) (by omega)) (by first | rfl | (simp only [nI_add, pk_mul]; first | done | rfl)) rfl ?_
      refine AR.run g_X5_set_86_5 94 [some (.ref 16384), some (.int (nI (k))), some (.int (v)), some (.int (wi v (nI (1)) (nI (9)))), none] [.int ((nI (7)) + (nI (k))), .ref 16385] _ [] rfl trivial ?_
      refine AR.ald (n := 0) (e := (7 + k)) ok_X5_set_94 (by first | rfl | (simp only [nI_add, pk_mul]; first | done | rfl)) rfl (by omega) (by first | decide | omega) ?_
      refine AR.run g_X5_set_95_7 106 [some (.ref 16384), some (.int (nI (k))), some (.int (v)), some (.int (wi v (nI (1)) (nI (9)))), some (.int (z (7 + k)))] [.int (v), .int ((nI (7)) + (nI (k))), .ref 16385] _ [] rfl trivial ?_
      refine AR.ast (n := 0) (e := (7 + k)) (h1 := (hp o0 a0 t0 p0 (mo (upd z (7 + k) v) sa (svR z ro s) te fr to un ga pi be bm en sta (nI (svN s)) ln (nI (0)) hh) u0 l0)) ok_X5_set_106 (by first | rfl | (simp only [nI_add, pk_mul]; first | done | rfl)) rfl rfl (by omega) (by decide) rfl ?_
      refine AR.run g_X5_set_107_1 109 [some (.ref 16384), some (.int (nI (k))), some (.int (v)), some (.int (wi v (nI (1)) (nI (9)))), some (.int (z (7 + k)))] [.int (z (7 + k))] _ [] rfl trivial ?_
      have e15_0 : F_5set k v z = (z (7 + k)) := by rw [F_5set, if_pos (show k = 0 from by omega), if_neg c73_14]
      have e15_1 : F_5set_z k v z = (upd z (7 + k) v) := by rw [F_5set_z, if_pos (show k = 0 from by omega), if_neg c73_14]
      have e15_2 : F_5set_ro k v s z ro = (svR z ro s) := by rw [F_5set_ro, if_pos (show k = 0 from by omega), if_neg c73_14]
      have e15_3 : F_5set_sv k v s sv = (nI (svN s)) := by rw [F_5set_sv, if_pos (show k = 0 from by omega), if_neg c73_14]
      have e15_4 : F_5set_th k v = (nI (0)) := by rw [F_5set_th, if_pos (show k = 0 from by omega), if_neg c73_14]
      exact AR.retI dc_X5_set_109 rfl e15_0.symm (by rw [e15_1, e15_2, e15_3, e15_4])
    · refine AR.run g_X5_set_76_2 78 [some (.ref 16384), some (.int (nI (k))), some (.int (v)), some (.int (wi v (nI (1)) (nI (9)))), none] [.int (nI (2)), .ref 16384] _ [] rfl trivial ?_
      refine AR.callV1 (16384) [.int (nI (2))] [] lk_5_51 dc_X5_set_78 rfl rfl (s_fails _ (nI (2)) ) (by first | rfl | (simp only [nI_add, pk_mul]; first | done | rfl)) rfl ?_
      have e16_0 : F_5set k v z = (nI (0)) := by rw [F_5set, if_pos (show k = 0 from by omega), if_pos c73_14]
      have e16_1 : F_5set_z k v z = z := by rw [F_5set_z, if_pos (show k = 0 from by omega), if_pos c73_14]
      have e16_2 : F_5set_ro k v s z ro = ro := by rw [F_5set_ro, if_pos (show k = 0 from by omega), if_pos c73_14]
      have e16_3 : F_5set_sv k v s sv = sv := by rw [F_5set_sv, if_pos (show k = 0 from by omega), if_pos c73_14]
      have e16_4 : F_5set_th k v = (nI (2)) := by rw [F_5set_th, if_pos (show k = 0 from by omega), if_pos c73_14]
      exact AR.retI dc_X5_set_81 rfl e16_0.symm (by rw [e16_1, e16_2, e16_3, e16_4])
def F_5setYear (y : Int32) (z : Nat → Int32) : Int32 := if (wi y (nI (1800)) (nI (2199))) = 0 then (nI (0)) else (z 4)
def F_5setYear_z (y : Int32) (z : Nat → Int32) : Nat → Int32 := if (wi y (nI (1800)) (nI (2199))) = 0 then z else (upd z 4 y)
def F_5setYear_ro (y : Int32) (s : Nat) (z : Nat → Int32) (ro : Nat → Int32) : Nat → Int32 := if (wi y (nI (1800)) (nI (2199))) = 0 then ro else (svR z ro s)
def F_5setYear_sv (y : Int32) (s : Nat) (sv : Int32) : Int32 := if (wi y (nI (1800)) (nI (2199))) = 0 then sv else (nI (svN s))
def F_5setYear_th (y : Int32) : Int32 := if (wi y (nI (1800)) (nI (2199))) = 0 then (nI (1)) else (nI (0))
theorem g_X5_setYear_0_6 : ab_oks M_X5_setYear [(0, .aload_n 0, 1, 0, 0, 0, .null), (1, .iconst 0, 1, 0, 0, 0, .int (nI (0))), (2, .putfield 40, 3, 5, 15, 951, .null), (5, .iload_n 1, 1, 1, 0, 0, .null), (6, .sipush 1800, 3, 0, 0, 0, .int (nI (1800))), (9, .sipush 2199, 3, 0, 0, 0, .int (nI (2199)))] = true := by decide +kernel
theorem dc_X5_setYear_12 : decode (AM.bytes M_X5_setYear) 12 = .ok (.invokestatic 44, 3) := by decide +kernel
theorem dc_X5_setYear_15 : decode (AM.bytes M_X5_setYear) 15 = .ok (.ifCond .ne 9, 3) := by decide +kernel
theorem g_X5_setYear_24_1 : ab_oks M_X5_setYear [(24, .aload_n 0, 1, 0, 0, 0, .null)] = true := by decide +kernel
theorem dc_X5_setYear_25 : decode (AM.bytes M_X5_setYear) 25 = .ok (.invokevirtual 55, 3) := by decide +kernel
theorem g_X5_setYear_28_3 : ab_oks M_X5_setYear [(28, .aload_n 0, 1, 0, 0, 0, .null), (29, .getfield 7, 3, 5, 0, 936, .null), (32, .iconst 4, 1, 0, 0, 0, .int (nI (4)))] = true := by decide +kernel
theorem ok_X5_setYear_33 : ab_ok M_X5_setYear (33, .iaload, 1, 0, 0, 0, .null) = true := by decide +kernel
theorem g_X5_setYear_34_5 : ab_oks M_X5_setYear [(34, .istore_n 2, 1, 2, 0, 0, .null), (35, .aload_n 0, 1, 0, 0, 0, .null), (36, .getfield 7, 3, 5, 0, 936, .null), (39, .iconst 4, 1, 0, 0, 0, .int (nI (4))), (40, .iload_n 1, 1, 1, 0, 0, .null)] = true := by decide +kernel
theorem ok_X5_setYear_41 : ab_ok M_X5_setYear (41, .iastore, 1, 0, 0, 0, .null) = true := by decide +kernel
theorem g_X5_setYear_42_1 : ab_oks M_X5_setYear [(42, .iload_n 2, 1, 2, 0, 0, .null)] = true := by decide +kernel
theorem dc_X5_setYear_43 : decode (AM.bytes M_X5_setYear) 43 = .ok (.ireturn, 1) := by decide +kernel
theorem g_X5_setYear_18_2 : ab_oks M_X5_setYear [(18, .aload_n 0, 1, 0, 0, 0, .null), (19, .iconst 1, 1, 0, 0, 0, .int (nI (1)))] = true := by decide +kernel
theorem dc_X5_setYear_20 : decode (AM.bytes M_X5_setYear) 20 = .ok (.invokevirtual 51, 3) := by decide +kernel
theorem dc_X5_setYear_23 : decode (AM.bytes M_X5_setYear) 23 = .ok (.ireturn, 1) := by decide +kernel
set_option maxRecDepth 100000 in
set_option maxHeartbeats 4000000 in
theorem s_5setYear {E : AE} (d : Nat) (y : Int32) {nv : Nat} {nc : Nat} {nr : Nat} {ne : Nat} {s : Nat}  {o0 a0 t0 p0 u0 l0 : List AC} {z sa ro te fr to un ga pi be : Nat → Int32} {bm en sta sv ln th : Int32} {hh : Int64} (hZ : ZI z nv nc nr ne) (hs : sv = nI s) (hs6 : s ≤ 6) : CT E M_X5_setYear (d + 1) [.ref 16384, .int (y)] (hp o0 a0 t0 p0 (mo z sa ro te fr to un ga pi be bm en sta sv ln th hh) u0 l0) (.inl (some (.int (F_5setYear y z)))) (hp o0 a0 t0 p0 (mo (F_5setYear_z y z) sa (F_5setYear_ro y s z ro) te fr to un ga pi be bm en sta (F_5setYear_sv y s sv) ln (F_5setYear_th y) hh) u0 l0) 0 0 := by
  obtain ⟨⟨hnv, h12⟩, ⟨hnc, h4⟩, ⟨hnr, h3⟩, ⟨hne, h60⟩, hLV⟩ := id hZ
  refine CT.of (L := [some (.ref 16384), some (.int (y)), none]) rfl rfl ?_
  refine AR.run g_X5_setYear_0_6 12 [some (.ref 16384), some (.int (y)), none] [.int (nI (2199)), .int (nI (1800)), .int (y)] (hp o0 a0 t0 p0 (mo z sa ro te fr to un ga pi be bm en sta sv ln (nI (0)) hh) u0 l0) [] rfl trivial ?_
  refine AR.callS1 [.int (y), .int (nI (1800)), .int (nI (2199))] [] lk_5_44 dc_X5_setYear_12 (s_within _ y (nI (1800)) (nI (2199)) ) (by first | rfl | (simp only [nI_add, pk_mul]; first | done | rfl)) rfl ?_
  refine AR.ne (tgt := 24) dc_X5_setYear_15 (by decide) (fun c15_1 => ?_) (fun c15_1 => ?_)
  · refine AR.run g_X5_setYear_24_1 25 [some (.ref 16384), some (.int (y)), none] [.ref 16384] _ [] rfl trivial ?_
    refine AR.callV0 (16384) [] [] lk_5_55 dc_X5_setYear_25 rfl rfl (s_5save _ (by assumption) (by omega)) (by first | rfl | (simp only [nI_add, pk_mul]; first | done | rfl)) rfl ?_
    refine AR.run g_X5_setYear_28_3 33 [some (.ref 16384), some (.int (y)), none] [.int (nI (4)), .ref 16385] _ [] rfl trivial ?_
    refine AR.ald (n := 0) (e := 4) ok_X5_setYear_33 (by first | rfl | (simp only [nI_add, pk_mul]; first | done | rfl)) rfl (by omega) (by first | decide | omega) ?_
    refine AR.run g_X5_setYear_34_5 41 [some (.ref 16384), some (.int (y)), some (.int (z 4))] [.int (y), .int (nI (4)), .ref 16385] _ [] rfl trivial ?_
    refine AR.ast (n := 0) (e := 4) (h1 := (hp o0 a0 t0 p0 (mo (upd z 4 y) sa (svR z ro s) te fr to un ga pi be bm en sta (nI (svN s)) ln (nI (0)) hh) u0 l0)) ok_X5_setYear_41 (by first | rfl | (simp only [nI_add, pk_mul]; first | done | rfl)) rfl rfl (by omega) (by decide) rfl ?_
    refine AR.run g_X5_setYear_42_1 43 [some (.ref 16384), some (.int (y)), some (.int (z 4))] [.int (z 4)] _ [] rfl trivial ?_
    have e2_0 : F_5setYear y z = (z 4) := by rw [F_5setYear, if_neg c15_1]
    have e2_1 : F_5setYear_z y z = (upd z 4 y) := by rw [F_5setYear_z, if_neg c15_1]
    have e2_2 : F_5setYear_ro y s z ro = (svR z ro s) := by rw [F_5setYear_ro, if_neg c15_1]
    have e2_3 : F_5setYear_sv y s sv = (nI (svN s)) := by rw [F_5setYear_sv, if_neg c15_1]
    have e2_4 : F_5setYear_th y = (nI (0)) := by rw [F_5setYear_th, if_neg c15_1]
    exact AR.retI dc_X5_setYear_43 rfl e2_0.symm (by rw [e2_1, e2_2, e2_3, e2_4])
  · refine AR.run g_X5_setYear_18_2 20 [some (.ref 16384), some (.int (y)), none] [.int (nI (1)), .ref 16384] _ [] rfl trivial ?_
    refine AR.callV1 (16384) [.int (nI (1))] [] lk_5_51 dc_X5_setYear_20 rfl rfl (s_fails _ (nI (1)) ) (by first | rfl | (simp only [nI_add, pk_mul]; first | done | rfl)) rfl ?_
    have e3_0 : F_5setYear y z = (nI (0)) := by rw [F_5setYear, if_pos c15_1]
    have e3_1 : F_5setYear_z y z = z := by rw [F_5setYear_z, if_pos c15_1]
    have e3_2 : F_5setYear_ro y s z ro = ro := by rw [F_5setYear_ro, if_pos c15_1]
    have e3_3 : F_5setYear_sv y s sv = sv := by rw [F_5setYear_sv, if_pos c15_1]
    have e3_4 : F_5setYear_th y = (nI (1)) := by rw [F_5setYear_th, if_pos c15_1]
    exact AR.retI dc_X5_setYear_23 rfl e3_0.symm (by rw [e3_1, e3_2, e3_3, e3_4])
def F_5bringA : Int32 := (nI (0))
theorem F_5bringA_01 : F_5bringA  = nI 0 ∨ F_5bringA  = nI 1 := by
  unfold F_5bringA
  (repeat' split) <;> first | exact Or.inl rfl | exact Or.inr rfl | exact wi01 _ _ _
def F_5bringA_th : Int32 := (nI (1))
theorem g_X5_bring_0_5 : ab_oks M_X5_bring [(0, .aload_n 0, 1, 0, 0, 0, .null), (1, .iconst 0, 1, 0, 0, 0, .int (nI (0))), (2, .putfield 40, 3, 5, 15, 951, .null), (5, .aload_n 0, 1, 0, 0, 0, .null), (6, .iload_n 1, 1, 1, 0, 0, .null)] = true := by decide +kernel
theorem lk_5_85 : ab_lkV "LeafCradlesModel" 85 M_X5_isVolume 1 [1027, 1029, 35, 97, 1030] = true := by decide +kernel
theorem dc_X5_bring_7 : decode (AM.bytes M_X5_bring) 7 = .ok (.invokevirtual 85, 3) := by decide +kernel
theorem dc_X5_bring_10 : decode (AM.bytes M_X5_bring) 10 = .ok (.ifCond .eq 19, 3) := by decide +kernel
theorem g_X5_bring_29_2 : ab_oks M_X5_bring [(29, .aload_n 0, 1, 0, 0, 0, .null), (30, .iconst 1, 1, 0, 0, 0, .int (nI (1)))] = true := by decide +kernel
theorem dc_X5_bring_31 : decode (AM.bytes M_X5_bring) 31 = .ok (.invokevirtual 51, 3) := by decide +kernel
theorem dc_X5_bring_34 : decode (AM.bytes M_X5_bring) 34 = .ok (.ireturn, 1) := by decide +kernel
set_option maxRecDepth 100000 in
set_option maxHeartbeats 4000000 in
theorem s_5bringA {E : AE} (d : Nat) (x : Int32) (y : Int32) (w : Int32) {nv : Nat} {nc : Nat} {nr : Nat} {ne : Nat}  {o0 a0 t0 p0 u0 l0 : List AC} {z sa ro te fr to un ga pi be : Nat → Int32} {bm en sta sv ln th : Int32} {hh : Int64} (hZ : ZI z nv nc nr ne) (hbad : ¬ ∃ q9 : Nat, q9 < nv ∧ x = nI q9) : CT E M_X5_bring (d + 3) [.ref 16384, .int (x), .int (y), .int (w)] (hp o0 a0 t0 p0 (mo z sa ro te fr to un ga pi be bm en sta sv ln th hh) u0 l0) (.inl (some (.int (F_5bringA)))) (hp o0 a0 t0 p0 (mo z sa ro te fr to un ga pi be bm en sta sv ln F_5bringA_th hh) u0 l0) 0 0 := by
  obtain ⟨⟨hnv, h12⟩, ⟨hnc, h4⟩, ⟨hnr, h3⟩, ⟨hne, h60⟩, hLV⟩ := id hZ
  refine CT.of (L := [some (.ref 16384), some (.int (x)), some (.int (y)), some (.int (w))]) rfl rfl ?_
  refine AR.run g_X5_bring_0_5 7 [some (.ref 16384), some (.int (x)), some (.int (y)), some (.int (w))] [.int (x), .ref 16384] (hp o0 a0 t0 p0 (mo z sa ro te fr to un ga pi be bm en sta sv ln (nI (0)) hh) u0 l0) [] rfl trivial ?_
  refine AR.callV1 (16384) [.int (x)] [] lk_5_85 dc_X5_bring_7 rfl rfl (CT.ret (s_isVolume _ x hZ.1.1) (wiV_f (by omega) (by assumption))) (by first | rfl | (simp only [nI_add, pk_mul]; first | done | rfl)) rfl ?_
  refine AR.eqN (tgt := 29) (a := 0) dc_X5_bring_10 (by decide) (by first | rfl | (simp only [nI_add, pk_mul]; first | done | rfl)) (by omega) (fun c10_1 => ?_) (fun c10_1 => absurd c10_1 (by omega))
  refine AR.run g_X5_bring_29_2 31 [some (.ref 16384), some (.int (x)), some (.int (y)), some (.int (w))] [.int (nI (1)), .ref 16384] _ [] rfl trivial ?_
  refine AR.callV1 (16384) [.int (nI (1))] [] lk_5_51 dc_X5_bring_31 rfl rfl (s_fails _ (nI (1)) ) (by first | rfl | (simp only [nI_add, pk_mul]; first | done | rfl)) rfl ?_
  have e2_0 : F_5bringA = (nI (0)) := by rw [F_5bringA]
  have e2_1 : F_5bringA_th = (nI (1)) := by rw [F_5bringA_th]
  exact AR.retI dc_X5_bring_34 rfl e2_0.symm (by rw [e2_1])
def F_5bringB : Int32 := (nI (0))
theorem F_5bringB_01 : F_5bringB  = nI 0 ∨ F_5bringB  = nI 1 := by
  unfold F_5bringB
  (repeat' split) <;> first | exact Or.inl rfl | exact Or.inr rfl | exact wi01 _ _ _
def F_5bringB_th : Int32 := (nI (1))
theorem g_X5_bring_13_2 : ab_oks M_X5_bring [(13, .aload_n 0, 1, 0, 0, 0, .null), (14, .iload_n 2, 1, 2, 0, 0, .null)] = true := by decide +kernel
theorem lk_5_89 : ab_lkV "LeafCradlesModel" 89 M_X5_isCradle 1 [1031, 1033, 36, 97, 1034] = true := by decide +kernel
theorem dc_X5_bring_15 : decode (AM.bytes M_X5_bring) 15 = .ok (.invokevirtual 89, 3) := by decide +kernel
theorem dc_X5_bring_18 : decode (AM.bytes M_X5_bring) 18 = .ok (.ifCond .eq 11, 3) := by decide +kernel
set_option maxRecDepth 100000 in
set_option maxHeartbeats 4000000 in
theorem s_5bringB {E : AE} (d : Nat) (v : Nat) (x : Int32) (w : Int32) {nv : Nat} {nc : Nat} {nr : Nat} {ne : Nat}  {o0 a0 t0 p0 u0 l0 : List AC} {z sa ro te fr to un ga pi be : Nat → Int32} {bm en sta sv ln th : Int32} {hh : Int64} (hZ : ZI z nv nc nr ne) (hv : v < nv) (hbad : ¬ ∃ q9 : Nat, q9 < nc ∧ x = nI q9) : CT E M_X5_bring (d + 3) [.ref 16384, .int (nI (v)), .int (x), .int (w)] (hp o0 a0 t0 p0 (mo z sa ro te fr to un ga pi be bm en sta sv ln th hh) u0 l0) (.inl (some (.int (F_5bringB)))) (hp o0 a0 t0 p0 (mo z sa ro te fr to un ga pi be bm en sta sv ln F_5bringB_th hh) u0 l0) 0 0 := by
  obtain ⟨⟨hnv, h12⟩, ⟨hnc, h4⟩, ⟨hnr, h3⟩, ⟨hne, h60⟩, hLV⟩ := id hZ
  refine CT.of (L := [some (.ref 16384), some (.int (nI (v))), some (.int (x)), some (.int (w))]) rfl rfl ?_
  refine AR.run g_X5_bring_0_5 7 [some (.ref 16384), some (.int (nI (v))), some (.int (x)), some (.int (w))] [.int (nI (v)), .ref 16384] (hp o0 a0 t0 p0 (mo z sa ro te fr to un ga pi be bm en sta sv ln (nI (0)) hh) u0 l0) [] rfl trivial ?_
  refine AR.callV1 (16384) [.int (nI (v))] [] lk_5_85 dc_X5_bring_7 rfl rfl (CT.ret (s_isVolume _ (nI (v)) hZ.1.1) (wiV_t (by omega) (by omega))) (by first | rfl | (simp only [nI_add, pk_mul]; first | done | rfl)) rfl ?_
  refine AR.eqN (tgt := 29) (a := 1) dc_X5_bring_10 (by decide) (by first | rfl | (simp only [nI_add, pk_mul]; first | done | rfl)) (by omega) (fun c10_1 => absurd c10_1 (by omega)) (fun c10_1 => ?_)
  refine AR.run g_X5_bring_13_2 15 [some (.ref 16384), some (.int (nI (v))), some (.int (x)), some (.int (w))] [.int (x), .ref 16384] _ [] rfl trivial ?_
  refine AR.callV1 (16384) [.int (x)] [] lk_5_89 dc_X5_bring_15 rfl rfl (CT.ret (s_isCradle _ x hZ.2.1.1) (wiV_f (by omega) (by assumption))) (by first | rfl | (simp only [nI_add, pk_mul]; first | done | rfl)) rfl ?_
  refine AR.eqN (tgt := 29) (a := 0) dc_X5_bring_18 (by decide) (by first | rfl | (simp only [nI_add, pk_mul]; first | done | rfl)) (by omega) (fun c18_2 => ?_) (fun c18_2 => absurd c18_2 (by omega))
  refine AR.run g_X5_bring_29_2 31 [some (.ref 16384), some (.int (nI (v))), some (.int (x)), some (.int (w))] [.int (nI (1)), .ref 16384] _ [] rfl trivial ?_
  refine AR.callV1 (16384) [.int (nI (1))] [] lk_5_51 dc_X5_bring_31 rfl rfl (s_fails _ (nI (1)) ) (by first | rfl | (simp only [nI_add, pk_mul]; first | done | rfl)) rfl ?_
  have e3_0 : F_5bringB = (nI (0)) := by rw [F_5bringB]
  have e3_1 : F_5bringB_th = (nI (1)) := by rw [F_5bringB_th]
  exact AR.retI dc_X5_bring_34 rfl e3_0.symm (by rw [e3_1])
def F_5bringC : Int32 := (nI (0))
theorem F_5bringC_01 : F_5bringC  = nI 0 ∨ F_5bringC  = nI 1 := by
  unfold F_5bringC
  (repeat' split) <;> first | exact Or.inl rfl | exact Or.inr rfl | exact wi01 _ _ _
def F_5bringC_th : Int32 := (nI (1))
theorem g_X5_bring_21_2 : ab_oks M_X5_bring [(21, .aload_n 0, 1, 0, 0, 0, .null), (22, .iload_n 3, 1, 3, 0, 0, .null)] = true := by decide +kernel
theorem lk_5_92 : ab_lkV "LeafCradlesModel" 92 M_X5_isCarrier 1 [1035, 1037, 37, 97, 1038] = true := by decide +kernel
theorem dc_X5_bring_23 : decode (AM.bytes M_X5_bring) 23 = .ok (.invokevirtual 92, 3) := by decide +kernel
theorem dc_X5_bring_26 : decode (AM.bytes M_X5_bring) 26 = .ok (.ifCond .ne 9, 3) := by decide +kernel
set_option maxRecDepth 100000 in
set_option maxHeartbeats 4000000 in
theorem s_5bringC {E : AE} (d : Nat) (v : Nat) (c : Nat) (x : Int32) {nv : Nat} {nc : Nat} {nr : Nat} {ne : Nat}  {o0 a0 t0 p0 u0 l0 : List AC} {z sa ro te fr to un ga pi be : Nat → Int32} {bm en sta sv ln th : Int32} {hh : Int64} (hZ : ZI z nv nc nr ne) (hv : v < nv) (hc : c < nc) (hbad : ¬ ∃ q9 : Nat, q9 < nr ∧ x = nI q9) : CT E M_X5_bring (d + 3) [.ref 16384, .int (nI (v)), .int (nI (c)), .int (x)] (hp o0 a0 t0 p0 (mo z sa ro te fr to un ga pi be bm en sta sv ln th hh) u0 l0) (.inl (some (.int (F_5bringC)))) (hp o0 a0 t0 p0 (mo z sa ro te fr to un ga pi be bm en sta sv ln F_5bringC_th hh) u0 l0) 0 0 := by
  obtain ⟨⟨hnv, h12⟩, ⟨hnc, h4⟩, ⟨hnr, h3⟩, ⟨hne, h60⟩, hLV⟩ := id hZ
  refine CT.of (L := [some (.ref 16384), some (.int (nI (v))), some (.int (nI (c))), some (.int (x))]) rfl rfl ?_
  refine AR.run g_X5_bring_0_5 7 [some (.ref 16384), some (.int (nI (v))), some (.int (nI (c))), some (.int (x))] [.int (nI (v)), .ref 16384] (hp o0 a0 t0 p0 (mo z sa ro te fr to un ga pi be bm en sta sv ln (nI (0)) hh) u0 l0) [] rfl trivial ?_
  refine AR.callV1 (16384) [.int (nI (v))] [] lk_5_85 dc_X5_bring_7 rfl rfl (CT.ret (s_isVolume _ (nI (v)) hZ.1.1) (wiV_t (by omega) (by omega))) (by first | rfl | (simp only [nI_add, pk_mul]; first | done | rfl)) rfl ?_
  refine AR.eqN (tgt := 29) (a := 1) dc_X5_bring_10 (by decide) (by first | rfl | (simp only [nI_add, pk_mul]; first | done | rfl)) (by omega) (fun c10_1 => absurd c10_1 (by omega)) (fun c10_1 => ?_)
  refine AR.run g_X5_bring_13_2 15 [some (.ref 16384), some (.int (nI (v))), some (.int (nI (c))), some (.int (x))] [.int (nI (c)), .ref 16384] _ [] rfl trivial ?_
  refine AR.callV1 (16384) [.int (nI (c))] [] lk_5_89 dc_X5_bring_15 rfl rfl (CT.ret (s_isCradle _ (nI (c)) hZ.2.1.1) (wiV_t (by omega) (by omega))) (by first | rfl | (simp only [nI_add, pk_mul]; first | done | rfl)) rfl ?_
  refine AR.eqN (tgt := 29) (a := 1) dc_X5_bring_18 (by decide) (by first | rfl | (simp only [nI_add, pk_mul]; first | done | rfl)) (by omega) (fun c18_2 => absurd c18_2 (by omega)) (fun c18_2 => ?_)
  refine AR.run g_X5_bring_21_2 23 [some (.ref 16384), some (.int (nI (v))), some (.int (nI (c))), some (.int (x))] [.int (x), .ref 16384] _ [] rfl trivial ?_
  refine AR.callV1 (16384) [.int (x)] [] lk_5_92 dc_X5_bring_23 rfl rfl (CT.ret (s_isCarrier _ x hZ.2.2.1.1) (wiV_f (by omega) (by assumption))) (by first | rfl | (simp only [nI_add, pk_mul]; first | done | rfl)) rfl ?_
  refine AR.neN (tgt := 35) (a := 0) dc_X5_bring_26 (by decide) (by first | rfl | (simp only [nI_add, pk_mul]; first | done | rfl)) (by omega) (fun c26_3 => absurd c26_3 (by omega)) (fun c26_3 => ?_)
  refine AR.run g_X5_bring_29_2 31 [some (.ref 16384), some (.int (nI (v))), some (.int (nI (c))), some (.int (x))] [.int (nI (1)), .ref 16384] _ [] rfl trivial ?_
  refine AR.callV1 (16384) [.int (nI (1))] [] lk_5_51 dc_X5_bring_31 rfl rfl (s_fails _ (nI (1)) ) (by first | rfl | (simp only [nI_add, pk_mul]; first | done | rfl)) rfl ?_
  have e4_0 : F_5bringC = (nI (0)) := by rw [F_5bringC]
  have e4_1 : F_5bringC_th = (nI (1)) := by rw [F_5bringC_th]
  exact AR.retI dc_X5_bring_34 rfl e4_0.symm (by rw [e4_1])
def F_5bring (v : Nat) (c : Nat) (r : Nat) (nv : Nat) (ne : Nat) (z : Nat → Int32) : Int32 := if (rsZ z nv ne v c r) = 0 then (F_5goesA v r z) else (nI (0))
def F_5bring_z (v : Nat) (c : Nat) (r : Nat) (nv : Nat) (ne : Nat) (z : Nat → Int32) : Nat → Int32 := if (rsZ z nv ne v c r) = 0 then (F_5goesA_z v c r ne z) else z
def F_5bring_ro (v : Nat) (c : Nat) (r : Nat) (nv : Nat) (ne : Nat) (s : Nat) (z : Nat → Int32) (ro : Nat → Int32) : Nat → Int32 := if (rsZ z nv ne v c r) = 0 then (svR z ro s) else ro
def F_5bring_sv (v : Nat) (c : Nat) (r : Nat) (nv : Nat) (ne : Nat) (s : Nat) (z : Nat → Int32) (sv : Int32) : Int32 := if (rsZ z nv ne v c r) = 0 then (nI (svN s)) else sv
def F_5bring_th (v : Nat) (c : Nat) (r : Nat) (nv : Nat) (ne : Nat) (z : Nat → Int32) : Int32 := if (rsZ z nv ne v c r) = 0 then (nI (0)) else (nI (2))
theorem g_X5_bring_35_4 : ab_oks M_X5_bring [(35, .aload_n 0, 1, 0, 0, 0, .null), (36, .iload_n 1, 1, 1, 0, 0, .null), (37, .iload_n 2, 1, 2, 0, 0, .null), (38, .iload_n 3, 1, 3, 0, 0, .null)] = true := by decide +kernel
theorem lk_5_95 : ab_lkV "LeafCradlesModel" 95 M_X5_reason 3 [1039, 1041, 38, 97, 1042] = true := by decide +kernel
theorem dc_X5_bring_39 : decode (AM.bytes M_X5_bring) 39 = .ok (.invokevirtual 95, 3) := by decide +kernel
theorem dc_X5_bring_42 : decode (AM.bytes M_X5_bring) 42 = .ok (.ifCond .eq 9, 3) := by decide +kernel
theorem g_X5_bring_51_1 : ab_oks M_X5_bring [(51, .aload_n 0, 1, 0, 0, 0, .null)] = true := by decide +kernel
theorem dc_X5_bring_52 : decode (AM.bytes M_X5_bring) 52 = .ok (.invokevirtual 55, 3) := by decide +kernel
theorem g_X5_bring_55_4 : ab_oks M_X5_bring [(55, .aload_n 0, 1, 0, 0, 0, .null), (56, .iload_n 1, 1, 1, 0, 0, .null), (57, .iload_n 2, 1, 2, 0, 0, .null), (58, .iload_n 3, 1, 3, 0, 0, .null)] = true := by decide +kernel
theorem lk_5_98 : ab_lkV "LeafCradlesModel" 98 M_X5_goes 3 [1071, 1073, 46, 97, 1074] = true := by decide +kernel
theorem dc_X5_bring_59 : decode (AM.bytes M_X5_bring) 59 = .ok (.invokevirtual 98, 3) := by decide +kernel
theorem dc_X5_bring_62 : decode (AM.bytes M_X5_bring) 62 = .ok (.ireturn, 1) := by decide +kernel
theorem g_X5_bring_45_2 : ab_oks M_X5_bring [(45, .aload_n 0, 1, 0, 0, 0, .null), (46, .iconst 2, 1, 0, 0, 0, .int (nI (2)))] = true := by decide +kernel
theorem dc_X5_bring_47 : decode (AM.bytes M_X5_bring) 47 = .ok (.invokevirtual 51, 3) := by decide +kernel
theorem dc_X5_bring_50 : decode (AM.bytes M_X5_bring) 50 = .ok (.ireturn, 1) := by decide +kernel
set_option maxRecDepth 100000 in
set_option maxHeartbeats 4000000 in
theorem s_5bring {E : AE} (d : Nat) (v : Nat) (c : Nat) (r : Nat) {nv : Nat} {nc : Nat} {nr : Nat} {ne : Nat} {s : Nat}  {o0 a0 t0 p0 u0 l0 : List AC} {z sa ro te fr to un ga pi be : Nat → Int32} {bm en sta sv ln th : Int32} {hh : Int64} (hZ : ZI z nv nc nr ne) (hs : sv = nI s) (hs6 : s ≤ 6) (hv : v < nv) (hc : c < nc) (hr : r < nr) : CT E M_X5_bring (d + 3) [.ref 16384, .int (nI (v)), .int (nI (c)), .int (nI (r))] (hp o0 a0 t0 p0 (mo z sa ro te fr to un ga pi be bm en sta sv ln th hh) u0 l0) (.inl (some (.int (F_5bring v c r nv ne z)))) (hp o0 a0 t0 p0 (mo (F_5bring_z v c r nv ne z) sa (F_5bring_ro v c r nv ne s z ro) te fr to un ga pi be bm en sta (F_5bring_sv v c r nv ne s z sv) ln (F_5bring_th v c r nv ne z) hh) u0 l0) 0 0 := by
  obtain ⟨⟨hnv, h12⟩, ⟨hnc, h4⟩, ⟨hnr, h3⟩, ⟨hne, h60⟩, hLV⟩ := id hZ
  refine CT.of (L := [some (.ref 16384), some (.int (nI (v))), some (.int (nI (c))), some (.int (nI (r)))]) rfl rfl ?_
  refine AR.run g_X5_bring_0_5 7 [some (.ref 16384), some (.int (nI (v))), some (.int (nI (c))), some (.int (nI (r)))] [.int (nI (v)), .ref 16384] (hp o0 a0 t0 p0 (mo z sa ro te fr to un ga pi be bm en sta sv ln (nI (0)) hh) u0 l0) [] rfl trivial ?_
  refine AR.callV1 (16384) [.int (nI (v))] [] lk_5_85 dc_X5_bring_7 rfl rfl (CT.ret (s_isVolume _ (nI (v)) hZ.1.1) (wiV_t (by omega) (by omega))) (by first | rfl | (simp only [nI_add, pk_mul]; first | done | rfl)) rfl ?_
  refine AR.eqN (tgt := 29) (a := 1) dc_X5_bring_10 (by decide) (by first | rfl | (simp only [nI_add, pk_mul]; first | done | rfl)) (by omega) (fun c10_1 => absurd c10_1 (by omega)) (fun c10_1 => ?_)
  refine AR.run g_X5_bring_13_2 15 [some (.ref 16384), some (.int (nI (v))), some (.int (nI (c))), some (.int (nI (r)))] [.int (nI (c)), .ref 16384] _ [] rfl trivial ?_
  refine AR.callV1 (16384) [.int (nI (c))] [] lk_5_89 dc_X5_bring_15 rfl rfl (CT.ret (s_isCradle _ (nI (c)) hZ.2.1.1) (wiV_t (by omega) (by omega))) (by first | rfl | (simp only [nI_add, pk_mul]; first | done | rfl)) rfl ?_
  refine AR.eqN (tgt := 29) (a := 1) dc_X5_bring_18 (by decide) (by first | rfl | (simp only [nI_add, pk_mul]; first | done | rfl)) (by omega) (fun c18_2 => absurd c18_2 (by omega)) (fun c18_2 => ?_)
  refine AR.run g_X5_bring_21_2 23 [some (.ref 16384), some (.int (nI (v))), some (.int (nI (c))), some (.int (nI (r)))] [.int (nI (r)), .ref 16384] _ [] rfl trivial ?_
  refine AR.callV1 (16384) [.int (nI (r))] [] lk_5_92 dc_X5_bring_23 rfl rfl (CT.ret (s_isCarrier _ (nI (r)) hZ.2.2.1.1) (wiV_t (by omega) (by omega))) (by first | rfl | (simp only [nI_add, pk_mul]; first | done | rfl)) rfl ?_
  refine AR.neN (tgt := 35) (a := 1) dc_X5_bring_26 (by decide) (by first | rfl | (simp only [nI_add, pk_mul]; first | done | rfl)) (by omega) (fun c26_3 => ?_) (fun c26_3 => absurd c26_3 (by omega))
  refine AR.run g_X5_bring_35_4 39 [some (.ref 16384), some (.int (nI (v))), some (.int (nI (c))), some (.int (nI (r)))] [.int (nI (r)), .int (nI (c)), .int (nI (v)), .ref 16384] _ [] rfl trivial ?_
  refine AR.callV1 (16384) [.int (nI (v)), .int (nI (c)), .int (nI (r))] [] lk_5_95 dc_X5_bring_39 rfl rfl (s_reason _ v c r (by omega) (by omega) (by omega) hZ.1.1 hZ.1.2 hZ.2.2.2.2 hZ.2.2.2.1.1 hZ.2.2.2.1.2) (by first | rfl | (simp only [nI_add, pk_mul]; first | done | rfl)) rfl ?_
  refine AR.eq (tgt := 51) dc_X5_bring_42 (by decide) (fun c42_4 => ?_) (fun c42_4 => ?_)
  · have h60n := rsZ_ne (by assumption)
    refine AR.run g_X5_bring_51_1 52 [some (.ref 16384), some (.int (nI (v))), some (.int (nI (c))), some (.int (nI (r)))] [.ref 16384] _ [] rfl trivial ?_
    refine AR.callV0 (16384) [] [] lk_5_55 dc_X5_bring_52 rfl rfl (s_5save _ (by assumption) (by omega)) (by first | rfl | (simp only [nI_add, pk_mul]; first | done | rfl)) rfl ?_
    refine AR.run g_X5_bring_55_4 59 [some (.ref 16384), some (.int (nI (v))), some (.int (nI (c))), some (.int (nI (r)))] [.int (nI (r)), .int (nI (c)), .int (nI (v)), .ref 16384] _ [] rfl trivial ?_
    refine AR.callV1 (16384) [.int (nI (v)), .int (nI (c)), .int (nI (r))] [] lk_5_98 dc_X5_bring_59 rfl rfl (s_5goesA _ v c r (by assumption) (by omega) (by omega) (by omega) (by omega)) (by first | rfl | (simp only [nI_add, pk_mul]; first | done | rfl)) rfl ?_
    have e5_0 : F_5bring v c r nv ne z = (F_5goesA v r z) := by rw [F_5bring, if_pos c42_4]
    have e5_1 : F_5bring_z v c r nv ne z = (F_5goesA_z v c r ne z) := by rw [F_5bring_z, if_pos c42_4]
    have e5_2 : F_5bring_ro v c r nv ne s z ro = (svR z ro s) := by rw [F_5bring_ro, if_pos c42_4]
    have e5_3 : F_5bring_sv v c r nv ne s z sv = (nI (svN s)) := by rw [F_5bring_sv, if_pos c42_4]
    have e5_4 : F_5bring_th v c r nv ne z = (nI (0)) := by rw [F_5bring_th, if_pos c42_4]
    exact AR.retI dc_X5_bring_62 rfl e5_0.symm (by rw [e5_1, e5_2, e5_3, e5_4])
  · refine AR.run g_X5_bring_45_2 47 [some (.ref 16384), some (.int (nI (v))), some (.int (nI (c))), some (.int (nI (r)))] [.int (nI (2)), .ref 16384] _ [] rfl trivial ?_
    refine AR.callV1 (16384) [.int (nI (2))] [] lk_5_51 dc_X5_bring_47 rfl rfl (s_fails _ (nI (2)) ) (by first | rfl | (simp only [nI_add, pk_mul]; first | done | rfl)) rfl ?_
    have e6_0 : F_5bring v c r nv ne z = (nI (0)) := by rw [F_5bring, if_neg c42_4]
    have e6_1 : F_5bring_z v c r nv ne z = z := by rw [F_5bring_z, if_neg c42_4]
    have e6_2 : F_5bring_ro v c r nv ne s z ro = ro := by rw [F_5bring_ro, if_neg c42_4]
    have e6_3 : F_5bring_sv v c r nv ne s z sv = sv := by rw [F_5bring_sv, if_neg c42_4]
    have e6_4 : F_5bring_th v c r nv ne z = (nI (2)) := by rw [F_5bring_th, if_neg c42_4]
    exact AR.retI dc_X5_bring_50 rfl e6_0.symm (by rw [e6_1, e6_2, e6_3, e6_4])
def F_5whyNotA : Int32 := (nI (0))
theorem F_5whyNotA_01 : F_5whyNotA  = nI 0 ∨ F_5whyNotA  = nI 1 := by
  unfold F_5whyNotA
  (repeat' split) <;> first | exact Or.inl rfl | exact Or.inr rfl | exact wi01 _ _ _
def F_5whyNotA_th : Int32 := (nI (1))
theorem g_X5_whyNot_0_5 : ab_oks M_X5_whyNot [(0, .aload_n 0, 1, 0, 0, 0, .null), (1, .iconst 0, 1, 0, 0, 0, .int (nI (0))), (2, .putfield 40, 3, 5, 15, 951, .null), (5, .aload_n 0, 1, 0, 0, 0, .null), (6, .iload_n 1, 1, 1, 0, 0, .null)] = true := by decide +kernel
theorem dc_X5_whyNot_7 : decode (AM.bytes M_X5_whyNot) 7 = .ok (.invokevirtual 85, 3) := by decide +kernel
theorem dc_X5_whyNot_10 : decode (AM.bytes M_X5_whyNot) 10 = .ok (.ifCond .eq 29, 3) := by decide +kernel
theorem g_X5_whyNot_39_2 : ab_oks M_X5_whyNot [(39, .aload_n 0, 1, 0, 0, 0, .null), (40, .iconst 1, 1, 0, 0, 0, .int (nI (1)))] = true := by decide +kernel
theorem dc_X5_whyNot_41 : decode (AM.bytes M_X5_whyNot) 41 = .ok (.invokevirtual 51, 3) := by decide +kernel
theorem dc_X5_whyNot_44 : decode (AM.bytes M_X5_whyNot) 44 = .ok (.ireturn, 1) := by decide +kernel
set_option maxRecDepth 100000 in
set_option maxHeartbeats 4000000 in
theorem s_5whyNotA {E : AE} (d : Nat) (x : Int32) (y : Int32) (w : Int32) {nv : Nat} {nc : Nat} {nr : Nat} {ne : Nat}  {o0 a0 t0 p0 u0 l0 : List AC} {z sa ro te fr to un ga pi be : Nat → Int32} {bm en sta sv ln th : Int32} {hh : Int64} (hZ : ZI z nv nc nr ne) (hbad : ¬ ∃ q9 : Nat, q9 < nv ∧ x = nI q9) : CT E M_X5_whyNot (d + 3) [.ref 16384, .int (x), .int (y), .int (w)] (hp o0 a0 t0 p0 (mo z sa ro te fr to un ga pi be bm en sta sv ln th hh) u0 l0) (.inl (some (.int (F_5whyNotA)))) (hp o0 a0 t0 p0 (mo z sa ro te fr to un ga pi be bm en sta sv ln F_5whyNotA_th hh) u0 l0) 0 0 := by
  obtain ⟨⟨hnv, h12⟩, ⟨hnc, h4⟩, ⟨hnr, h3⟩, ⟨hne, h60⟩, hLV⟩ := id hZ
  refine CT.of (L := [some (.ref 16384), some (.int (x)), some (.int (y)), some (.int (w))]) rfl rfl ?_
  refine AR.run g_X5_whyNot_0_5 7 [some (.ref 16384), some (.int (x)), some (.int (y)), some (.int (w))] [.int (x), .ref 16384] (hp o0 a0 t0 p0 (mo z sa ro te fr to un ga pi be bm en sta sv ln (nI (0)) hh) u0 l0) [] rfl trivial ?_
  refine AR.callV1 (16384) [.int (x)] [] lk_5_85 dc_X5_whyNot_7 rfl rfl (CT.ret (s_isVolume _ x hZ.1.1) (wiV_f (by omega) (by assumption))) (by first | rfl | (simp only [nI_add, pk_mul]; first | done | rfl)) rfl ?_
  refine AR.eqN (tgt := 39) (a := 0) dc_X5_whyNot_10 (by decide) (by first | rfl | (simp only [nI_add, pk_mul]; first | done | rfl)) (by omega) (fun c10_1 => ?_) (fun c10_1 => absurd c10_1 (by omega))
  refine AR.run g_X5_whyNot_39_2 41 [some (.ref 16384), some (.int (x)), some (.int (y)), some (.int (w))] [.int (nI (1)), .ref 16384] _ [] rfl trivial ?_
  refine AR.callV1 (16384) [.int (nI (1))] [] lk_5_51 dc_X5_whyNot_41 rfl rfl (s_fails _ (nI (1)) ) (by first | rfl | (simp only [nI_add, pk_mul]; first | done | rfl)) rfl ?_
  have e2_0 : F_5whyNotA = (nI (0)) := by rw [F_5whyNotA]
  have e2_1 : F_5whyNotA_th = (nI (1)) := by rw [F_5whyNotA_th]
  exact AR.retI dc_X5_whyNot_44 rfl e2_0.symm (by rw [e2_1])
def F_5whyNotB : Int32 := (nI (0))
theorem F_5whyNotB_01 : F_5whyNotB  = nI 0 ∨ F_5whyNotB  = nI 1 := by
  unfold F_5whyNotB
  (repeat' split) <;> first | exact Or.inl rfl | exact Or.inr rfl | exact wi01 _ _ _
def F_5whyNotB_th : Int32 := (nI (1))
theorem g_X5_whyNot_13_2 : ab_oks M_X5_whyNot [(13, .aload_n 0, 1, 0, 0, 0, .null), (14, .iload_n 2, 1, 2, 0, 0, .null)] = true := by decide +kernel
theorem dc_X5_whyNot_15 : decode (AM.bytes M_X5_whyNot) 15 = .ok (.invokevirtual 89, 3) := by decide +kernel
theorem dc_X5_whyNot_18 : decode (AM.bytes M_X5_whyNot) 18 = .ok (.ifCond .eq 21, 3) := by decide +kernel
set_option maxRecDepth 100000 in
set_option maxHeartbeats 4000000 in
theorem s_5whyNotB {E : AE} (d : Nat) (v : Nat) (x : Int32) (w : Int32) {nv : Nat} {nc : Nat} {nr : Nat} {ne : Nat}  {o0 a0 t0 p0 u0 l0 : List AC} {z sa ro te fr to un ga pi be : Nat → Int32} {bm en sta sv ln th : Int32} {hh : Int64} (hZ : ZI z nv nc nr ne) (hv : v < nv) (hbad : ¬ ∃ q9 : Nat, q9 < nc ∧ x = nI q9) : CT E M_X5_whyNot (d + 3) [.ref 16384, .int (nI (v)), .int (x), .int (w)] (hp o0 a0 t0 p0 (mo z sa ro te fr to un ga pi be bm en sta sv ln th hh) u0 l0) (.inl (some (.int (F_5whyNotB)))) (hp o0 a0 t0 p0 (mo z sa ro te fr to un ga pi be bm en sta sv ln F_5whyNotB_th hh) u0 l0) 0 0 := by
  obtain ⟨⟨hnv, h12⟩, ⟨hnc, h4⟩, ⟨hnr, h3⟩, ⟨hne, h60⟩, hLV⟩ := id hZ
  refine CT.of (L := [some (.ref 16384), some (.int (nI (v))), some (.int (x)), some (.int (w))]) rfl rfl ?_
  refine AR.run g_X5_whyNot_0_5 7 [some (.ref 16384), some (.int (nI (v))), some (.int (x)), some (.int (w))] [.int (nI (v)), .ref 16384] (hp o0 a0 t0 p0 (mo z sa ro te fr to un ga pi be bm en sta sv ln (nI (0)) hh) u0 l0) [] rfl trivial ?_
  refine AR.callV1 (16384) [.int (nI (v))] [] lk_5_85 dc_X5_whyNot_7 rfl rfl (CT.ret (s_isVolume _ (nI (v)) hZ.1.1) (wiV_t (by omega) (by omega))) (by first | rfl | (simp only [nI_add, pk_mul]; first | done | rfl)) rfl ?_
  refine AR.eqN (tgt := 39) (a := 1) dc_X5_whyNot_10 (by decide) (by first | rfl | (simp only [nI_add, pk_mul]; first | done | rfl)) (by omega) (fun c10_1 => absurd c10_1 (by omega)) (fun c10_1 => ?_)
  refine AR.run g_X5_whyNot_13_2 15 [some (.ref 16384), some (.int (nI (v))), some (.int (x)), some (.int (w))] [.int (x), .ref 16384] _ [] rfl trivial ?_
  refine AR.callV1 (16384) [.int (x)] [] lk_5_89 dc_X5_whyNot_15 rfl rfl (CT.ret (s_isCradle _ x hZ.2.1.1) (wiV_f (by omega) (by assumption))) (by first | rfl | (simp only [nI_add, pk_mul]; first | done | rfl)) rfl ?_
  refine AR.eqN (tgt := 39) (a := 0) dc_X5_whyNot_18 (by decide) (by first | rfl | (simp only [nI_add, pk_mul]; first | done | rfl)) (by omega) (fun c18_2 => ?_) (fun c18_2 => absurd c18_2 (by omega))
  refine AR.run g_X5_whyNot_39_2 41 [some (.ref 16384), some (.int (nI (v))), some (.int (x)), some (.int (w))] [.int (nI (1)), .ref 16384] _ [] rfl trivial ?_
  refine AR.callV1 (16384) [.int (nI (1))] [] lk_5_51 dc_X5_whyNot_41 rfl rfl (s_fails _ (nI (1)) ) (by first | rfl | (simp only [nI_add, pk_mul]; first | done | rfl)) rfl ?_
  have e3_0 : F_5whyNotB = (nI (0)) := by rw [F_5whyNotB]
  have e3_1 : F_5whyNotB_th = (nI (1)) := by rw [F_5whyNotB_th]
  exact AR.retI dc_X5_whyNot_44 rfl e3_0.symm (by rw [e3_1])
def F_5whyNotC : Int32 := (nI (0))
theorem F_5whyNotC_01 : F_5whyNotC  = nI 0 ∨ F_5whyNotC  = nI 1 := by
  unfold F_5whyNotC
  (repeat' split) <;> first | exact Or.inl rfl | exact Or.inr rfl | exact wi01 _ _ _
def F_5whyNotC_th : Int32 := (nI (1))
theorem g_X5_whyNot_21_2 : ab_oks M_X5_whyNot [(21, .aload_n 0, 1, 0, 0, 0, .null), (22, .iload_n 3, 1, 3, 0, 0, .null)] = true := by decide +kernel
theorem dc_X5_whyNot_23 : decode (AM.bytes M_X5_whyNot) 23 = .ok (.invokevirtual 92, 3) := by decide +kernel
theorem dc_X5_whyNot_26 : decode (AM.bytes M_X5_whyNot) 26 = .ok (.ifCond .eq 13, 3) := by decide +kernel
set_option maxRecDepth 100000 in
set_option maxHeartbeats 4000000 in
theorem s_5whyNotC {E : AE} (d : Nat) (v : Nat) (c : Nat) (x : Int32) {nv : Nat} {nc : Nat} {nr : Nat} {ne : Nat}  {o0 a0 t0 p0 u0 l0 : List AC} {z sa ro te fr to un ga pi be : Nat → Int32} {bm en sta sv ln th : Int32} {hh : Int64} (hZ : ZI z nv nc nr ne) (hv : v < nv) (hc : c < nc) (hbad : ¬ ∃ q9 : Nat, q9 < nr ∧ x = nI q9) : CT E M_X5_whyNot (d + 3) [.ref 16384, .int (nI (v)), .int (nI (c)), .int (x)] (hp o0 a0 t0 p0 (mo z sa ro te fr to un ga pi be bm en sta sv ln th hh) u0 l0) (.inl (some (.int (F_5whyNotC)))) (hp o0 a0 t0 p0 (mo z sa ro te fr to un ga pi be bm en sta sv ln F_5whyNotC_th hh) u0 l0) 0 0 := by
  obtain ⟨⟨hnv, h12⟩, ⟨hnc, h4⟩, ⟨hnr, h3⟩, ⟨hne, h60⟩, hLV⟩ := id hZ
  refine CT.of (L := [some (.ref 16384), some (.int (nI (v))), some (.int (nI (c))), some (.int (x))]) rfl rfl ?_
  refine AR.run g_X5_whyNot_0_5 7 [some (.ref 16384), some (.int (nI (v))), some (.int (nI (c))), some (.int (x))] [.int (nI (v)), .ref 16384] (hp o0 a0 t0 p0 (mo z sa ro te fr to un ga pi be bm en sta sv ln (nI (0)) hh) u0 l0) [] rfl trivial ?_
  refine AR.callV1 (16384) [.int (nI (v))] [] lk_5_85 dc_X5_whyNot_7 rfl rfl (CT.ret (s_isVolume _ (nI (v)) hZ.1.1) (wiV_t (by omega) (by omega))) (by first | rfl | (simp only [nI_add, pk_mul]; first | done | rfl)) rfl ?_
  refine AR.eqN (tgt := 39) (a := 1) dc_X5_whyNot_10 (by decide) (by first | rfl | (simp only [nI_add, pk_mul]; first | done | rfl)) (by omega) (fun c10_1 => absurd c10_1 (by omega)) (fun c10_1 => ?_)
  refine AR.run g_X5_whyNot_13_2 15 [some (.ref 16384), some (.int (nI (v))), some (.int (nI (c))), some (.int (x))] [.int (nI (c)), .ref 16384] _ [] rfl trivial ?_
  refine AR.callV1 (16384) [.int (nI (c))] [] lk_5_89 dc_X5_whyNot_15 rfl rfl (CT.ret (s_isCradle _ (nI (c)) hZ.2.1.1) (wiV_t (by omega) (by omega))) (by first | rfl | (simp only [nI_add, pk_mul]; first | done | rfl)) rfl ?_
  refine AR.eqN (tgt := 39) (a := 1) dc_X5_whyNot_18 (by decide) (by first | rfl | (simp only [nI_add, pk_mul]; first | done | rfl)) (by omega) (fun c18_2 => absurd c18_2 (by omega)) (fun c18_2 => ?_)
  refine AR.run g_X5_whyNot_21_2 23 [some (.ref 16384), some (.int (nI (v))), some (.int (nI (c))), some (.int (x))] [.int (x), .ref 16384] _ [] rfl trivial ?_
  refine AR.callV1 (16384) [.int (x)] [] lk_5_92 dc_X5_whyNot_23 rfl rfl (CT.ret (s_isCarrier _ x hZ.2.2.1.1) (wiV_f (by omega) (by assumption))) (by first | rfl | (simp only [nI_add, pk_mul]; first | done | rfl)) rfl ?_
  refine AR.eqN (tgt := 39) (a := 0) dc_X5_whyNot_26 (by decide) (by first | rfl | (simp only [nI_add, pk_mul]; first | done | rfl)) (by omega) (fun c26_3 => ?_) (fun c26_3 => absurd c26_3 (by omega))
  refine AR.run g_X5_whyNot_39_2 41 [some (.ref 16384), some (.int (nI (v))), some (.int (nI (c))), some (.int (x))] [.int (nI (1)), .ref 16384] _ [] rfl trivial ?_
  refine AR.callV1 (16384) [.int (nI (1))] [] lk_5_51 dc_X5_whyNot_41 rfl rfl (s_fails _ (nI (1)) ) (by first | rfl | (simp only [nI_add, pk_mul]; first | done | rfl)) rfl ?_
  have e4_0 : F_5whyNotC = (nI (0)) := by rw [F_5whyNotC]
  have e4_1 : F_5whyNotC_th = (nI (1)) := by rw [F_5whyNotC_th]
  exact AR.retI dc_X5_whyNot_44 rfl e4_0.symm (by rw [e4_1])
def F_5whyNot (v : Nat) (c : Nat) (r : Nat) (nv : Nat) (ne : Nat) (z : Nat → Int32) : Int32 := (rsZ z nv ne v c r)
def F_5whyNot_th : Int32 := (nI (0))
theorem g_X5_whyNot_29_4 : ab_oks M_X5_whyNot [(29, .aload_n 0, 1, 0, 0, 0, .null), (30, .iload_n 1, 1, 1, 0, 0, .null), (31, .iload_n 2, 1, 2, 0, 0, .null), (32, .iload_n 3, 1, 3, 0, 0, .null)] = true := by decide +kernel
theorem dc_X5_whyNot_33 : decode (AM.bytes M_X5_whyNot) 33 = .ok (.invokevirtual 95, 3) := by decide +kernel
theorem g_X5_whyNot_36_1 : ab_oks M_X5_whyNot [(36, .goto 8, 3, 44, 0, 0, .null)] = true := by decide +kernel
set_option maxRecDepth 100000 in
set_option maxHeartbeats 4000000 in
theorem s_5whyNot {E : AE} (d : Nat) (v : Nat) (c : Nat) (r : Nat) {nv : Nat} {nc : Nat} {nr : Nat} {ne : Nat}  {o0 a0 t0 p0 u0 l0 : List AC} {z sa ro te fr to un ga pi be : Nat → Int32} {bm en sta sv ln th : Int32} {hh : Int64} (hZ : ZI z nv nc nr ne) (hv : v < nv) (hc : c < nc) (hr : r < nr) : CT E M_X5_whyNot (d + 3) [.ref 16384, .int (nI (v)), .int (nI (c)), .int (nI (r))] (hp o0 a0 t0 p0 (mo z sa ro te fr to un ga pi be bm en sta sv ln th hh) u0 l0) (.inl (some (.int (F_5whyNot v c r nv ne z)))) (hp o0 a0 t0 p0 (mo z sa ro te fr to un ga pi be bm en sta sv ln F_5whyNot_th hh) u0 l0) 0 0 := by
  obtain ⟨⟨hnv, h12⟩, ⟨hnc, h4⟩, ⟨hnr, h3⟩, ⟨hne, h60⟩, hLV⟩ := id hZ
  refine CT.of (L := [some (.ref 16384), some (.int (nI (v))), some (.int (nI (c))), some (.int (nI (r)))]) rfl rfl ?_
  refine AR.run g_X5_whyNot_0_5 7 [some (.ref 16384), some (.int (nI (v))), some (.int (nI (c))), some (.int (nI (r)))] [.int (nI (v)), .ref 16384] (hp o0 a0 t0 p0 (mo z sa ro te fr to un ga pi be bm en sta sv ln (nI (0)) hh) u0 l0) [] rfl trivial ?_
  refine AR.callV1 (16384) [.int (nI (v))] [] lk_5_85 dc_X5_whyNot_7 rfl rfl (CT.ret (s_isVolume _ (nI (v)) hZ.1.1) (wiV_t (by omega) (by omega))) (by first | rfl | (simp only [nI_add, pk_mul]; first | done | rfl)) rfl ?_
  refine AR.eqN (tgt := 39) (a := 1) dc_X5_whyNot_10 (by decide) (by first | rfl | (simp only [nI_add, pk_mul]; first | done | rfl)) (by omega) (fun c10_1 => absurd c10_1 (by omega)) (fun c10_1 => ?_)
  refine AR.run g_X5_whyNot_13_2 15 [some (.ref 16384), some (.int (nI (v))), some (.int (nI (c))), some (.int (nI (r)))] [.int (nI (c)), .ref 16384] _ [] rfl trivial ?_
  refine AR.callV1 (16384) [.int (nI (c))] [] lk_5_89 dc_X5_whyNot_15 rfl rfl (CT.ret (s_isCradle _ (nI (c)) hZ.2.1.1) (wiV_t (by omega) (by omega))) (by first | rfl | (simp only [nI_add, pk_mul]; first | done | rfl)) rfl ?_
  refine AR.eqN (tgt := 39) (a := 1) dc_X5_whyNot_18 (by decide) (by first | rfl | (simp only [nI_add, pk_mul]; first | done | rfl)) (by omega) (fun c18_2 => absurd c18_2 (by omega)) (fun c18_2 => ?_)
  refine AR.run g_X5_whyNot_21_2 23 [some (.ref 16384), some (.int (nI (v))), some (.int (nI (c))), some (.int (nI (r)))] [.int (nI (r)), .ref 16384] _ [] rfl trivial ?_
  refine AR.callV1 (16384) [.int (nI (r))] [] lk_5_92 dc_X5_whyNot_23 rfl rfl (CT.ret (s_isCarrier _ (nI (r)) hZ.2.2.1.1) (wiV_t (by omega) (by omega))) (by first | rfl | (simp only [nI_add, pk_mul]; first | done | rfl)) rfl ?_
  refine AR.eqN (tgt := 39) (a := 1) dc_X5_whyNot_26 (by decide) (by first | rfl | (simp only [nI_add, pk_mul]; first | done | rfl)) (by omega) (fun c26_3 => absurd c26_3 (by omega)) (fun c26_3 => ?_)
  refine AR.run g_X5_whyNot_29_4 33 [some (.ref 16384), some (.int (nI (v))), some (.int (nI (c))), some (.int (nI (r)))] [.int (nI (r)), .int (nI (c)), .int (nI (v)), .ref 16384] _ [] rfl trivial ?_
  refine AR.callV1 (16384) [.int (nI (v)), .int (nI (c)), .int (nI (r))] [] lk_5_95 dc_X5_whyNot_33 rfl rfl (s_reason _ v c r (by omega) (by omega) (by omega) hZ.1.1 hZ.1.2 hZ.2.2.2.2 hZ.2.2.2.1.1 hZ.2.2.2.1.2) (by first | rfl | (simp only [nI_add, pk_mul]; first | done | rfl)) rfl ?_
  refine AR.run g_X5_whyNot_36_1 44 [some (.ref 16384), some (.int (nI (v))), some (.int (nI (c))), some (.int (nI (r)))] [.int (rsZ z nv ne v c r)] _ [] rfl trivial ?_
  have e4_0 : F_5whyNot v c r nv ne z = (rsZ z nv ne v c r) := by rw [F_5whyNot]
  have e4_1 : F_5whyNot_th = (nI (0)) := by rw [F_5whyNot_th]
  exact AR.retI dc_X5_whyNot_44 rfl e4_0.symm (by rw [e4_1])
def F_5takeBackA : Int32 := (nI (0))
theorem F_5takeBackA_01 : F_5takeBackA  = nI 0 ∨ F_5takeBackA  = nI 1 := by
  unfold F_5takeBackA
  (repeat' split) <;> first | exact Or.inl rfl | exact Or.inr rfl | exact wi01 _ _ _
def F_5takeBackA_th : Int32 := (nI (1))
theorem g_X5_takeBack_0_5 : ab_oks M_X5_takeBack [(0, .aload_n 0, 1, 0, 0, 0, .null), (1, .iconst 0, 1, 0, 0, 0, .int (nI (0))), (2, .putfield 40, 3, 5, 15, 951, .null), (5, .aload_n 0, 1, 0, 0, 0, .null), (6, .iload_n 1, 1, 1, 0, 0, .null)] = true := by decide +kernel
theorem dc_X5_takeBack_7 : decode (AM.bytes M_X5_takeBack) 7 = .ok (.invokevirtual 85, 3) := by decide +kernel
theorem dc_X5_takeBack_10 : decode (AM.bytes M_X5_takeBack) 10 = .ok (.ifCond .eq 11, 3) := by decide +kernel
theorem g_X5_takeBack_21_2 : ab_oks M_X5_takeBack [(21, .aload_n 0, 1, 0, 0, 0, .null), (22, .iconst 1, 1, 0, 0, 0, .int (nI (1)))] = true := by decide +kernel
theorem dc_X5_takeBack_23 : decode (AM.bytes M_X5_takeBack) 23 = .ok (.invokevirtual 51, 3) := by decide +kernel
theorem dc_X5_takeBack_26 : decode (AM.bytes M_X5_takeBack) 26 = .ok (.ireturn, 1) := by decide +kernel
set_option maxRecDepth 100000 in
set_option maxHeartbeats 4000000 in
theorem s_5takeBackA {E : AE} (d : Nat) (x : Int32) (w : Int32) {nv : Nat} {nc : Nat} {nr : Nat} {ne : Nat}  {o0 a0 t0 p0 u0 l0 : List AC} {z sa ro te fr to un ga pi be : Nat → Int32} {bm en sta sv ln th : Int32} {hh : Int64} (hZ : ZI z nv nc nr ne) (hbad : ¬ ∃ q9 : Nat, q9 < nv ∧ x = nI q9) : CT E M_X5_takeBack (d + 3) [.ref 16384, .int (x), .int (w)] (hp o0 a0 t0 p0 (mo z sa ro te fr to un ga pi be bm en sta sv ln th hh) u0 l0) (.inl (some (.int (F_5takeBackA)))) (hp o0 a0 t0 p0 (mo z sa ro te fr to un ga pi be bm en sta sv ln F_5takeBackA_th hh) u0 l0) 0 0 := by
  obtain ⟨⟨hnv, h12⟩, ⟨hnc, h4⟩, ⟨hnr, h3⟩, ⟨hne, h60⟩, hLV⟩ := id hZ
  refine CT.of (L := [some (.ref 16384), some (.int (x)), some (.int (w))]) rfl rfl ?_
  refine AR.run g_X5_takeBack_0_5 7 [some (.ref 16384), some (.int (x)), some (.int (w))] [.int (x), .ref 16384] (hp o0 a0 t0 p0 (mo z sa ro te fr to un ga pi be bm en sta sv ln (nI (0)) hh) u0 l0) [] rfl trivial ?_
  refine AR.callV1 (16384) [.int (x)] [] lk_5_85 dc_X5_takeBack_7 rfl rfl (CT.ret (s_isVolume _ x hZ.1.1) (wiV_f (by omega) (by assumption))) (by first | rfl | (simp only [nI_add, pk_mul]; first | done | rfl)) rfl ?_
  refine AR.eqN (tgt := 21) (a := 0) dc_X5_takeBack_10 (by decide) (by first | rfl | (simp only [nI_add, pk_mul]; first | done | rfl)) (by omega) (fun c10_1 => ?_) (fun c10_1 => absurd c10_1 (by omega))
  refine AR.run g_X5_takeBack_21_2 23 [some (.ref 16384), some (.int (x)), some (.int (w))] [.int (nI (1)), .ref 16384] _ [] rfl trivial ?_
  refine AR.callV1 (16384) [.int (nI (1))] [] lk_5_51 dc_X5_takeBack_23 rfl rfl (s_fails _ (nI (1)) ) (by first | rfl | (simp only [nI_add, pk_mul]; first | done | rfl)) rfl ?_
  have e2_0 : F_5takeBackA = (nI (0)) := by rw [F_5takeBackA]
  have e2_1 : F_5takeBackA_th = (nI (1)) := by rw [F_5takeBackA_th]
  exact AR.retI dc_X5_takeBack_26 rfl e2_0.symm (by rw [e2_1])
def F_5takeBackB : Int32 := (nI (0))
theorem F_5takeBackB_01 : F_5takeBackB  = nI 0 ∨ F_5takeBackB  = nI 1 := by
  unfold F_5takeBackB
  (repeat' split) <;> first | exact Or.inl rfl | exact Or.inr rfl | exact wi01 _ _ _
def F_5takeBackB_th : Int32 := (nI (1))
theorem g_X5_takeBack_13_2 : ab_oks M_X5_takeBack [(13, .aload_n 0, 1, 0, 0, 0, .null), (14, .iload_n 2, 1, 2, 0, 0, .null)] = true := by decide +kernel
theorem dc_X5_takeBack_15 : decode (AM.bytes M_X5_takeBack) 15 = .ok (.invokevirtual 92, 3) := by decide +kernel
theorem dc_X5_takeBack_18 : decode (AM.bytes M_X5_takeBack) 18 = .ok (.ifCond .ne 9, 3) := by decide +kernel
set_option maxRecDepth 100000 in
set_option maxHeartbeats 4000000 in
theorem s_5takeBackB {E : AE} (d : Nat) (v : Nat) (x : Int32) {nv : Nat} {nc : Nat} {nr : Nat} {ne : Nat}  {o0 a0 t0 p0 u0 l0 : List AC} {z sa ro te fr to un ga pi be : Nat → Int32} {bm en sta sv ln th : Int32} {hh : Int64} (hZ : ZI z nv nc nr ne) (hv : v < nv) (hbad : ¬ ∃ q9 : Nat, q9 < nr ∧ x = nI q9) : CT E M_X5_takeBack (d + 3) [.ref 16384, .int (nI (v)), .int (x)] (hp o0 a0 t0 p0 (mo z sa ro te fr to un ga pi be bm en sta sv ln th hh) u0 l0) (.inl (some (.int (F_5takeBackB)))) (hp o0 a0 t0 p0 (mo z sa ro te fr to un ga pi be bm en sta sv ln F_5takeBackB_th hh) u0 l0) 0 0 := by
  obtain ⟨⟨hnv, h12⟩, ⟨hnc, h4⟩, ⟨hnr, h3⟩, ⟨hne, h60⟩, hLV⟩ := id hZ
  refine CT.of (L := [some (.ref 16384), some (.int (nI (v))), some (.int (x))]) rfl rfl ?_
  refine AR.run g_X5_takeBack_0_5 7 [some (.ref 16384), some (.int (nI (v))), some (.int (x))] [.int (nI (v)), .ref 16384] (hp o0 a0 t0 p0 (mo z sa ro te fr to un ga pi be bm en sta sv ln (nI (0)) hh) u0 l0) [] rfl trivial ?_
  refine AR.callV1 (16384) [.int (nI (v))] [] lk_5_85 dc_X5_takeBack_7 rfl rfl (CT.ret (s_isVolume _ (nI (v)) hZ.1.1) (wiV_t (by omega) (by omega))) (by first | rfl | (simp only [nI_add, pk_mul]; first | done | rfl)) rfl ?_
  refine AR.eqN (tgt := 21) (a := 1) dc_X5_takeBack_10 (by decide) (by first | rfl | (simp only [nI_add, pk_mul]; first | done | rfl)) (by omega) (fun c10_1 => absurd c10_1 (by omega)) (fun c10_1 => ?_)
  refine AR.run g_X5_takeBack_13_2 15 [some (.ref 16384), some (.int (nI (v))), some (.int (x))] [.int (x), .ref 16384] _ [] rfl trivial ?_
  refine AR.callV1 (16384) [.int (x)] [] lk_5_92 dc_X5_takeBack_15 rfl rfl (CT.ret (s_isCarrier _ x hZ.2.2.1.1) (wiV_f (by omega) (by assumption))) (by first | rfl | (simp only [nI_add, pk_mul]; first | done | rfl)) rfl ?_
  refine AR.neN (tgt := 27) (a := 0) dc_X5_takeBack_18 (by decide) (by first | rfl | (simp only [nI_add, pk_mul]; first | done | rfl)) (by omega) (fun c18_2 => absurd c18_2 (by omega)) (fun c18_2 => ?_)
  refine AR.run g_X5_takeBack_21_2 23 [some (.ref 16384), some (.int (nI (v))), some (.int (x))] [.int (nI (1)), .ref 16384] _ [] rfl trivial ?_
  refine AR.callV1 (16384) [.int (nI (1))] [] lk_5_51 dc_X5_takeBack_23 rfl rfl (s_fails _ (nI (1)) ) (by first | rfl | (simp only [nI_add, pk_mul]; first | done | rfl)) rfl ?_
  have e3_0 : F_5takeBackB = (nI (0)) := by rw [F_5takeBackB]
  have e3_1 : F_5takeBackB_th = (nI (1)) := by rw [F_5takeBackB_th]
  exact AR.retI dc_X5_takeBack_26 rfl e3_0.symm (by rw [e3_1])
def F_5takeBackC : Int32 := (nI (0))
theorem F_5takeBackC_01 : F_5takeBackC  = nI 0 ∨ F_5takeBackC  = nI 1 := by
  unfold F_5takeBackC
  (repeat' split) <;> first | exact Or.inl rfl | exact Or.inr rfl | exact wi01 _ _ _
def F_5takeBackC_th : Int32 := (nI (2))
theorem g_X5_takeBack_27_3 : ab_oks M_X5_takeBack [(27, .aload_n 0, 1, 0, 0, 0, .null), (28, .iload_n 1, 1, 1, 0, 0, .null), (29, .iconst 5, 1, 0, 0, 0, .int (nI (5)))] = true := by decide +kernel
theorem dc_X5_takeBack_30 : decode (AM.bytes M_X5_takeBack) 30 = .ok (.invokevirtual 62, 3) := by decide +kernel
theorem dc_X5_takeBack_33 : decode (AM.bytes M_X5_takeBack) 33 = .ok (.ifCond .eq 19, 3) := by decide +kernel
theorem g_X5_takeBack_52_2 : ab_oks M_X5_takeBack [(52, .aload_n 0, 1, 0, 0, 0, .null), (53, .iconst 2, 1, 0, 0, 0, .int (nI (2)))] = true := by decide +kernel
theorem dc_X5_takeBack_54 : decode (AM.bytes M_X5_takeBack) 54 = .ok (.invokevirtual 51, 3) := by decide +kernel
theorem dc_X5_takeBack_57 : decode (AM.bytes M_X5_takeBack) 57 = .ok (.ireturn, 1) := by decide +kernel
set_option maxRecDepth 100000 in
set_option maxHeartbeats 4000000 in
theorem s_5takeBackC {E : AE} (d : Nat) (v : Nat) (r : Nat) {nv : Nat} {nc : Nat} {nr : Nat} {ne : Nat}  {o0 a0 t0 p0 u0 l0 : List AC} {z sa ro te fr to un ga pi be : Nat → Int32} {bm en sta sv ln th : Int32} {hh : Int64} (hZ : ZI z nv nc nr ne) (hv : v < nv) (hr : r < nr) (h0 : z (11 + 7 * v + 5) = nI 0) : CT E M_X5_takeBack (d + 3) [.ref 16384, .int (nI (v)), .int (nI (r))] (hp o0 a0 t0 p0 (mo z sa ro te fr to un ga pi be bm en sta sv ln th hh) u0 l0) (.inl (some (.int (F_5takeBackC)))) (hp o0 a0 t0 p0 (mo z sa ro te fr to un ga pi be bm en sta sv ln F_5takeBackC_th hh) u0 l0) 0 0 := by
  obtain ⟨⟨hnv, h12⟩, ⟨hnc, h4⟩, ⟨hnr, h3⟩, ⟨hne, h60⟩, hLV⟩ := id hZ
  refine CT.of (L := [some (.ref 16384), some (.int (nI (v))), some (.int (nI (r)))]) rfl rfl ?_
  refine AR.run g_X5_takeBack_0_5 7 [some (.ref 16384), some (.int (nI (v))), some (.int (nI (r)))] [.int (nI (v)), .ref 16384] (hp o0 a0 t0 p0 (mo z sa ro te fr to un ga pi be bm en sta sv ln (nI (0)) hh) u0 l0) [] rfl trivial ?_
  refine AR.callV1 (16384) [.int (nI (v))] [] lk_5_85 dc_X5_takeBack_7 rfl rfl (CT.ret (s_isVolume _ (nI (v)) hZ.1.1) (wiV_t (by omega) (by omega))) (by first | rfl | (simp only [nI_add, pk_mul]; first | done | rfl)) rfl ?_
  refine AR.eqN (tgt := 21) (a := 1) dc_X5_takeBack_10 (by decide) (by first | rfl | (simp only [nI_add, pk_mul]; first | done | rfl)) (by omega) (fun c10_1 => absurd c10_1 (by omega)) (fun c10_1 => ?_)
  refine AR.run g_X5_takeBack_13_2 15 [some (.ref 16384), some (.int (nI (v))), some (.int (nI (r)))] [.int (nI (r)), .ref 16384] _ [] rfl trivial ?_
  refine AR.callV1 (16384) [.int (nI (r))] [] lk_5_92 dc_X5_takeBack_15 rfl rfl (CT.ret (s_isCarrier _ (nI (r)) hZ.2.2.1.1) (wiV_t (by omega) (by omega))) (by first | rfl | (simp only [nI_add, pk_mul]; first | done | rfl)) rfl ?_
  refine AR.neN (tgt := 27) (a := 1) dc_X5_takeBack_18 (by decide) (by first | rfl | (simp only [nI_add, pk_mul]; first | done | rfl)) (by omega) (fun c18_2 => ?_) (fun c18_2 => absurd c18_2 (by omega))
  refine AR.run g_X5_takeBack_27_3 30 [some (.ref 16384), some (.int (nI (v))), some (.int (nI (r)))] [.int (nI (5)), .int (nI (v)), .ref 16384] _ [] rfl trivial ?_
  refine AR.callV1 (16384) [.int (nI (v)), .int (nI (5))] [] lk_5_62 dc_X5_takeBack_30 rfl rfl (s_ofVolume _ v 5 (by omega) (by omega)) (by first | rfl | (simp only [nI_add, pk_mul]; first | done | rfl)) rfl ?_
  refine AR.top h0 ?_
  refine AR.eqN (tgt := 52) (a := 0) dc_X5_takeBack_33 (by decide) (by first | rfl | (simp only [nI_add, pk_mul]; first | done | rfl)) (by omega) (fun c33_3 => ?_) (fun c33_3 => absurd c33_3 (by omega))
  refine AR.run g_X5_takeBack_52_2 54 [some (.ref 16384), some (.int (nI (v))), some (.int (nI (r)))] [.int (nI (2)), .ref 16384] _ [] rfl trivial ?_
  refine AR.callV1 (16384) [.int (nI (2))] [] lk_5_51 dc_X5_takeBack_54 rfl rfl (s_fails _ (nI (2)) ) (by first | rfl | (simp only [nI_add, pk_mul]; first | done | rfl)) rfl ?_
  have e4_0 : F_5takeBackC = (nI (0)) := by rw [F_5takeBackC]
  have e4_1 : F_5takeBackC_th = (nI (2)) := by rw [F_5takeBackC_th]
  exact AR.retI dc_X5_takeBack_57 rfl e4_0.symm (by rw [e4_1])
def F_5takeBack (v : Nat) (r : Nat) (ne : Nat) (z : Nat → Int32) : Int32 := if 0 < (z (111 + 4 * r + 1)) then (nI (0)) else if (bi (ne = 60)) = 0 then (F_5goesB v r z) else (nI (0))
def F_5takeBack_z (v : Nat) (r : Nat) (ne : Nat) (w : Nat) (z : Nat → Int32) : Nat → Int32 := if 0 < (z (111 + 4 * r + 1)) then z else if (bi (ne = 60)) = 0 then (F_5goesB_z v r ne w z) else z
def F_5takeBack_ro (r : Nat) (ne : Nat) (s : Nat) (z : Nat → Int32) (ro : Nat → Int32) : Nat → Int32 := if 0 < (z (111 + 4 * r + 1)) then ro else if (bi (ne = 60)) = 0 then (svR z ro s) else ro
def F_5takeBack_sv (r : Nat) (ne : Nat) (s : Nat) (z : Nat → Int32) (sv : Int32) : Int32 := if 0 < (z (111 + 4 * r + 1)) then sv else if (bi (ne = 60)) = 0 then (nI (svN s)) else sv
def F_5takeBack_th (r : Nat) (ne : Nat) (z : Nat → Int32) : Int32 := if 0 < (z (111 + 4 * r + 1)) then (nI (2)) else if (bi (ne = 60)) = 0 then (nI (0)) else (nI (2))
theorem g_X5_takeBack_36_3 : ab_oks M_X5_takeBack [(36, .aload_n 0, 1, 0, 0, 0, .null), (37, .iload_n 2, 1, 2, 0, 0, .null), (38, .iconst 1, 1, 0, 0, 0, .int (nI (1)))] = true := by decide +kernel
theorem dc_X5_takeBack_39 : decode (AM.bytes M_X5_takeBack) 39 = .ok (.invokevirtual 58, 3) := by decide +kernel
theorem dc_X5_takeBack_42 : decode (AM.bytes M_X5_takeBack) 42 = .ok (.ifCond .gt 10, 3) := by decide +kernel
theorem g_X5_takeBack_45_1 : ab_oks M_X5_takeBack [(45, .aload_n 0, 1, 0, 0, 0, .null)] = true := by decide +kernel
theorem dc_X5_takeBack_46 : decode (AM.bytes M_X5_takeBack) 46 = .ok (.invokevirtual 78, 3) := by decide +kernel
theorem dc_X5_takeBack_49 : decode (AM.bytes M_X5_takeBack) 49 = .ok (.ifCond .eq 9, 3) := by decide +kernel
theorem g_X5_takeBack_58_1 : ab_oks M_X5_takeBack [(58, .aload_n 0, 1, 0, 0, 0, .null)] = true := by decide +kernel
theorem dc_X5_takeBack_59 : decode (AM.bytes M_X5_takeBack) 59 = .ok (.invokevirtual 55, 3) := by decide +kernel
theorem g_X5_takeBack_62_4 : ab_oks M_X5_takeBack [(62, .aload_n 0, 1, 0, 0, 0, .null), (63, .iload_n 1, 1, 1, 0, 0, .null), (64, .iconst (-1), 1, 0, 0, 0, .int (-1)), (65, .iload_n 2, 1, 2, 0, 0, .null)] = true := by decide +kernel
theorem dc_X5_takeBack_66 : decode (AM.bytes M_X5_takeBack) 66 = .ok (.invokevirtual 98, 3) := by decide +kernel
theorem dc_X5_takeBack_69 : decode (AM.bytes M_X5_takeBack) 69 = .ok (.ireturn, 1) := by decide +kernel
set_option maxRecDepth 100000 in
set_option maxHeartbeats 4000000 in
theorem s_5takeBack {E : AE} (d : Nat) (v : Nat) (r : Nat) {nv : Nat} {nc : Nat} {nr : Nat} {ne : Nat} {s : Nat} {w : Nat}  {o0 a0 t0 p0 u0 l0 : List AC} {z sa ro te fr to un ga pi be : Nat → Int32} {bm en sta sv ln th : Int32} {hh : Int64} (hZ : ZI z nv nc nr ne) (hs : sv = nI s) (hs6 : s ≤ 6) (hv : v < nv) (hr : r < nr) (hon : z (11 + 7 * v + 5) = nI (w + 1)) (hw : w < 4) : CT E M_X5_takeBack (d + 3) [.ref 16384, .int (nI (v)), .int (nI (r))] (hp o0 a0 t0 p0 (mo z sa ro te fr to un ga pi be bm en sta sv ln th hh) u0 l0) (.inl (some (.int (F_5takeBack v r ne z)))) (hp o0 a0 t0 p0 (mo (F_5takeBack_z v r ne w z) sa (F_5takeBack_ro r ne s z ro) te fr to un ga pi be bm en sta (F_5takeBack_sv r ne s z sv) ln (F_5takeBack_th r ne z) hh) u0 l0) 0 0 := by
  obtain ⟨⟨hnv, h12⟩, ⟨hnc, h4⟩, ⟨hnr, h3⟩, ⟨hne, h60⟩, hLV⟩ := id hZ
  refine CT.of (L := [some (.ref 16384), some (.int (nI (v))), some (.int (nI (r)))]) rfl rfl ?_
  refine AR.run g_X5_takeBack_0_5 7 [some (.ref 16384), some (.int (nI (v))), some (.int (nI (r)))] [.int (nI (v)), .ref 16384] (hp o0 a0 t0 p0 (mo z sa ro te fr to un ga pi be bm en sta sv ln (nI (0)) hh) u0 l0) [] rfl trivial ?_
  refine AR.callV1 (16384) [.int (nI (v))] [] lk_5_85 dc_X5_takeBack_7 rfl rfl (CT.ret (s_isVolume _ (nI (v)) hZ.1.1) (wiV_t (by omega) (by omega))) (by first | rfl | (simp only [nI_add, pk_mul]; first | done | rfl)) rfl ?_
  refine AR.eqN (tgt := 21) (a := 1) dc_X5_takeBack_10 (by decide) (by first | rfl | (simp only [nI_add, pk_mul]; first | done | rfl)) (by omega) (fun c10_1 => absurd c10_1 (by omega)) (fun c10_1 => ?_)
  refine AR.run g_X5_takeBack_13_2 15 [some (.ref 16384), some (.int (nI (v))), some (.int (nI (r)))] [.int (nI (r)), .ref 16384] _ [] rfl trivial ?_
  refine AR.callV1 (16384) [.int (nI (r))] [] lk_5_92 dc_X5_takeBack_15 rfl rfl (CT.ret (s_isCarrier _ (nI (r)) hZ.2.2.1.1) (wiV_t (by omega) (by omega))) (by first | rfl | (simp only [nI_add, pk_mul]; first | done | rfl)) rfl ?_
  refine AR.neN (tgt := 27) (a := 1) dc_X5_takeBack_18 (by decide) (by first | rfl | (simp only [nI_add, pk_mul]; first | done | rfl)) (by omega) (fun c18_2 => ?_) (fun c18_2 => absurd c18_2 (by omega))
  refine AR.run g_X5_takeBack_27_3 30 [some (.ref 16384), some (.int (nI (v))), some (.int (nI (r)))] [.int (nI (5)), .int (nI (v)), .ref 16384] _ [] rfl trivial ?_
  refine AR.callV1 (16384) [.int (nI (v)), .int (nI (5))] [] lk_5_62 dc_X5_takeBack_30 rfl rfl (s_ofVolume _ v 5 (by omega) (by omega)) (by first | rfl | (simp only [nI_add, pk_mul]; first | done | rfl)) rfl ?_
  refine AR.top hon ?_
  refine AR.eqN (tgt := 52) (a := (w + 1)) dc_X5_takeBack_33 (by decide) (by first | rfl | (simp only [nI_add, pk_mul]; first | done | rfl)) (by omega) (fun c33_3 => absurd c33_3 (by omega)) (fun c33_3 => ?_)
  refine AR.run g_X5_takeBack_36_3 39 [some (.ref 16384), some (.int (nI (v))), some (.int (nI (r)))] [.int (nI (1)), .int (nI (r)), .ref 16384] _ [] rfl trivial ?_
  refine AR.callV1 (16384) [.int (nI (r)), .int (nI (1))] [] lk_5_58 dc_X5_takeBack_39 rfl rfl (s_ofCarrier _ r 1 (by omega) (by omega)) (by first | rfl | (simp only [nI_add, pk_mul]; first | done | rfl)) rfl ?_
  refine AR.gt (tgt := 52) dc_X5_takeBack_42 (by decide) (fun c42_4 => ?_) (fun c42_4 => ?_)
  · refine AR.run g_X5_takeBack_52_2 54 [some (.ref 16384), some (.int (nI (v))), some (.int (nI (r)))] [.int (nI (2)), .ref 16384] _ [] rfl trivial ?_
    refine AR.callV1 (16384) [.int (nI (2))] [] lk_5_51 dc_X5_takeBack_54 rfl rfl (s_fails _ (nI (2)) ) (by first | rfl | (simp only [nI_add, pk_mul]; first | done | rfl)) rfl ?_
    have e5_0 : F_5takeBack v r ne z = (nI (0)) := by rw [F_5takeBack, if_pos c42_4]
    have e5_1 : F_5takeBack_z v r ne w z = z := by rw [F_5takeBack_z, if_pos c42_4]
    have e5_2 : F_5takeBack_ro r ne s z ro = ro := by rw [F_5takeBack_ro, if_pos c42_4]
    have e5_3 : F_5takeBack_sv r ne s z sv = sv := by rw [F_5takeBack_sv, if_pos c42_4]
    have e5_4 : F_5takeBack_th r ne z = (nI (2)) := by rw [F_5takeBack_th, if_pos c42_4]
    exact AR.retI dc_X5_takeBack_57 rfl e5_0.symm (by rw [e5_1, e5_2, e5_3, e5_4])
  · refine AR.run g_X5_takeBack_45_1 46 [some (.ref 16384), some (.int (nI (v))), some (.int (nI (r)))] [.ref 16384] _ [] rfl trivial ?_
    refine AR.callV1 (16384) [] [] lk_5_78 dc_X5_takeBack_46 rfl rfl (s_isLogFull _  hne h60) (by first | rfl | (simp only [nI_add, pk_mul]; first | done | rfl)) rfl ?_
    refine AR.eq (tgt := 58) dc_X5_takeBack_49 (by decide) (fun c49_6 => ?_) (fun c49_6 => ?_)
    · have h60n := bi_0 (by assumption)
      refine AR.run g_X5_takeBack_58_1 59 [some (.ref 16384), some (.int (nI (v))), some (.int (nI (r)))] [.ref 16384] _ [] rfl trivial ?_
      refine AR.callV0 (16384) [] [] lk_5_55 dc_X5_takeBack_59 rfl rfl (s_5save _ (by assumption) (by omega)) (by first | rfl | (simp only [nI_add, pk_mul]; first | done | rfl)) rfl ?_
      refine AR.run g_X5_takeBack_62_4 66 [some (.ref 16384), some (.int (nI (v))), some (.int (nI (r)))] [.int (nI (r)), .int (-1), .int (nI (v)), .ref 16384] _ [] rfl trivial ?_
      refine AR.callV1 (16384) [.int (nI (v)), .int (-1), .int (nI (r))] [] lk_5_98 dc_X5_takeBack_66 rfl rfl (s_5goesB _ v r (by assumption) (by omega) (by omega) (by omega) (by assumption) (by omega)) (by first | rfl | (simp only [nI_add, pk_mul]; first | done | rfl)) rfl ?_
      have e7_0 : F_5takeBack v r ne z = (F_5goesB v r z) := by rw [F_5takeBack, if_neg c42_4, if_pos c49_6]
      have e7_1 : F_5takeBack_z v r ne w z = (F_5goesB_z v r ne w z) := by rw [F_5takeBack_z, if_neg c42_4, if_pos c49_6]
      have e7_2 : F_5takeBack_ro r ne s z ro = (svR z ro s) := by rw [F_5takeBack_ro, if_neg c42_4, if_pos c49_6]
      have e7_3 : F_5takeBack_sv r ne s z sv = (nI (svN s)) := by rw [F_5takeBack_sv, if_neg c42_4, if_pos c49_6]
      have e7_4 : F_5takeBack_th r ne z = (nI (0)) := by rw [F_5takeBack_th, if_neg c42_4, if_pos c49_6]
      exact AR.retI dc_X5_takeBack_69 rfl e7_0.symm (by rw [e7_1, e7_2, e7_3, e7_4])
    · refine AR.run g_X5_takeBack_52_2 54 [some (.ref 16384), some (.int (nI (v))), some (.int (nI (r)))] [.int (nI (2)), .ref 16384] _ [] rfl trivial ?_
      refine AR.callV1 (16384) [.int (nI (2))] [] lk_5_51 dc_X5_takeBack_54 rfl rfl (s_fails _ (nI (2)) ) (by first | rfl | (simp only [nI_add, pk_mul]; first | done | rfl)) rfl ?_
      have e8_0 : F_5takeBack v r ne z = (nI (0)) := by rw [F_5takeBack, if_neg c42_4, if_neg c49_6]
      have e8_1 : F_5takeBack_z v r ne w z = z := by rw [F_5takeBack_z, if_neg c42_4, if_neg c49_6]
      have e8_2 : F_5takeBack_ro r ne s z ro = ro := by rw [F_5takeBack_ro, if_neg c42_4, if_neg c49_6]
      have e8_3 : F_5takeBack_sv r ne s z sv = sv := by rw [F_5takeBack_sv, if_neg c42_4, if_neg c49_6]
      have e8_4 : F_5takeBack_th r ne z = (nI (2)) := by rw [F_5takeBack_th, if_neg c42_4, if_neg c49_6]
      exact AR.retI dc_X5_takeBack_57 rfl e8_0.symm (by rw [e8_1, e8_2, e8_3, e8_4])
