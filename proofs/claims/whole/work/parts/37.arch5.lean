def B_0minutesUntilDone_4 (j4 : Nat) (x4_1 : Int32) (y4_ar0 : Nat → Nat → Int32) : (Int32) × (Nat → Nat → Int32) := if (F_0isFree j4 y4_ar0) = 0 then if (F_0workFor 4 12 (nI (2001)) (F_0copyForTrial_T j4 (((y4_ar0 2) (j4 * 5 + 2)).toNatClampNeg) y4_ar0)) = 0 then (if x4_1 < (nI (0)) then (nI (0)) else x4_1, F_0workFor_T 4 12 (nI (2001)) (F_0copyForTrial_T j4 (((y4_ar0 2) (j4 * 5 + 2)).toNatClampNeg) y4_ar0)) else (if x4_1 < ((((F_0workFor_T 4 12 (nI (2001)) (F_0copyForTrial_T j4 (((y4_ar0 2) (j4 * 5 + 2)).toNatClampNeg) y4_ar0)) 0) ((((y4_ar0 2) (j4 * 5 + 2)).toNatClampNeg) * 7 + 6)) + (F_0workFor 4 12 (nI (2001)) (F_0copyForTrial_T j4 (((y4_ar0 2) (j4 * 5 + 2)).toNatClampNeg) y4_ar0))) then ((((F_0workFor_T 4 12 (nI (2001)) (F_0copyForTrial_T j4 (((y4_ar0 2) (j4 * 5 + 2)).toNatClampNeg) y4_ar0)) 0) ((((y4_ar0 2) (j4 * 5 + 2)).toNatClampNeg) * 7 + 6)) + (F_0workFor 4 12 (nI (2001)) (F_0copyForTrial_T j4 (((y4_ar0 2) (j4 * 5 + 2)).toNatClampNeg) y4_ar0))) else x4_1, F_0workFor_T 4 12 (nI (2001)) (F_0copyForTrial_T j4 (((y4_ar0 2) (j4 * 5 + 2)).toNatClampNeg) y4_ar0)) else (x4_1, y4_ar0)
def L_0minutesUntilDone_4 (T : Nat → Nat → Int32) : Nat → (Int32) × (Nat → Nat → Int32)
  | 0 => (nI (0), T)
  | j + 1 => B_0minutesUntilDone_4  j ((L_0minutesUntilDone_4 T  j).1) ((L_0minutesUntilDone_4 T  j).2)
theorem TI_mUD {T : Nat → Nat → Int32} {nv nc nr ne : Nat} (hT : TI T nv nc nr ne) (h4 : nc ≤ 4) : ∀ j : Nat, j ≤ 4 → TI (L_0minutesUntilDone_4 T j).2 nv nc nr ne
  | 0, _ => hT
  | j + 1, h => by
    have ih := TI_mUD hT h4 j (by omega)
    show TI (B_0minutesUntilDone_4 j (L_0minutesUntilDone_4 T j).1 (L_0minutesUntilDone_4 T j).2).2 nv nc nr ne
    unfold B_0minutesUntilDone_4
    split
    · rename_i h0
      obtain ⟨-, h2⟩ := QI_get (by omega) (ih.2.2.2.2.2 j (by omega)) (isFree_0 h0)
      have key := TI_FR (TI_trial (c := j) (v := ((L_0minutesUntilDone_4 T j).2 2 (j * 5 + 2)).toNatClampNeg) ih) (wf_FR (c := 4) (m := nI 2001) (HLv_trial (ih.2.2.2.2.1 _ h2)))
      (repeat' split) <;> exact key
    · exact ih
def F_0minutesUntilDone (nc : Nat) (T : Nat → Nat → Int32) : Int32 := if ((L_0minutesUntilDone_4 T nc).1) ≤ (nI (2000)) then ((L_0minutesUntilDone_4 T nc).1) else (-1)
def F_0minutesUntilDone_T (nc : Nat) (T : Nat → Nat → Int32) : Nat → Nat → Int32 := if ((L_0minutesUntilDone_4 T nc).1) ≤ (nI (2000)) then ((L_0minutesUntilDone_4 T nc).2) else ((L_0minutesUntilDone_4 T nc).2)
theorem g_X0_minutesUntilDone_0_4 : ab_oks M_X0_minutesUntilDone [(0, .iconst 0, 1, 0, 0, 0, .int (nI (0))), (1, .istore_n 1, 1, 1, 0, 0, .null), (2, .iconst 0, 1, 0, 0, 0, .int (nI (0))), (3, .istore_n 2, 1, 2, 0, 0, .null)] = true := by decide +kernel
theorem g_X0_minutesUntilDone_4_3 : ab_oks M_X0_minutesUntilDone [(4, .iload_n 2, 1, 2, 0, 0, .null), (5, .aload_n 0, 1, 0, 0, 0, .null), (6, .iconst 1, 1, 0, 0, 0, .int (nI (1)))] = true := by decide +kernel
theorem dc_X0_minutesUntilDone_7 : decode (AM.bytes M_X0_minutesUntilDone) 7 = .ok (.invokevirtual 56, 3) := by decide +kernel
theorem dc_X0_minutesUntilDone_10 : decode (AM.bytes M_X0_minutesUntilDone) 10 = .ok (.if_icmp .ge 76, 3) := by decide +kernel
theorem g_X0_minutesUntilDone_13_2 : ab_oks M_X0_minutesUntilDone [(13, .aload_n 0, 1, 0, 0, 0, .null), (14, .iload_n 2, 1, 2, 0, 0, .null)] = true := by decide +kernel
theorem dc_X0_minutesUntilDone_15 : decode (AM.bytes M_X0_minutesUntilDone) 15 = .ok (.invokevirtual 92, 3) := by decide +kernel
theorem dc_X0_minutesUntilDone_18 : decode (AM.bytes M_X0_minutesUntilDone) 18 = .ok (.ifCond .ne 62, 3) := by decide +kernel
theorem g_X0_minutesUntilDone_80_2 : ab_oks M_X0_minutesUntilDone [(80, .iinc 2 1, 3, 2, 0, 0, .int (nI (1))), (83, .goto (-79), 3, 4, 0, 0, .null)] = true := by decide +kernel
theorem g_X0_minutesUntilDone_21_4 : ab_oks M_X0_minutesUntilDone [(21, .aload_n 0, 1, 0, 0, 0, .null), (22, .getfield 23, 3, 0, 2, 155, .null), (25, .iload_n 2, 1, 2, 0, 0, .null), (26, .iconst 2, 1, 0, 0, 0, .int (nI (2)))] = true := by decide +kernel
theorem dc_X0_minutesUntilDone_27 : decode (AM.bytes M_X0_minutesUntilDone) 27 = .ok (.invokevirtual 45, 3) := by decide +kernel
theorem g_X0_minutesUntilDone_30_1 : ab_oks M_X0_minutesUntilDone [(30, .istore_n 3, 1, 3, 0, 0, .null)] = true := by decide +kernel
theorem g_X0_minutesUntilDone_31_3 : ab_oks M_X0_minutesUntilDone [(31, .aload_n 0, 1, 0, 0, 0, .null), (32, .iload_n 2, 1, 2, 0, 0, .null), (33, .iload_n 3, 1, 3, 0, 0, .null)] = true := by decide +kernel
theorem dc_X0_minutesUntilDone_34 : decode (AM.bytes M_X0_minutesUntilDone) 34 = .ok (.invokevirtual 127, 3) := by decide +kernel
theorem g_X0_minutesUntilDone_37_4 : ab_oks M_X0_minutesUntilDone [(37, .aload_n 0, 1, 0, 0, 0, .null), (38, .iconst 4, 1, 0, 0, 0, .int (nI (4))), (39, .bipush 12, 2, 0, 0, 0, .int (nI (12))), (41, .sipush 2001, 3, 0, 0, 0, .int (nI (2001)))] = true := by decide +kernel
theorem dc_X0_minutesUntilDone_44 : decode (AM.bytes M_X0_minutesUntilDone) 44 = .ok (.invokevirtual 114, 3) := by decide +kernel
theorem g_X0_minutesUntilDone_47_2 : ab_oks M_X0_minutesUntilDone [(47, .istore 4, 2, 4, 0, 0, .null), (49, .iload 4, 2, 4, 0, 0, .null)] = true := by decide +kernel
theorem dc_X0_minutesUntilDone_51 : decode (AM.bytes M_X0_minutesUntilDone) 51 = .ok (.ifCond .ne 7, 3) := by decide +kernel
theorem g_X0_minutesUntilDone_58_4 : ab_oks M_X0_minutesUntilDone [(58, .aload_n 0, 1, 0, 0, 0, .null), (59, .getfield 14, 3, 0, 0, 153, .null), (62, .iload_n 3, 1, 3, 0, 0, .null), (63, .bipush 6, 2, 0, 0, 0, .int (nI (6)))] = true := by decide +kernel
theorem dc_X0_minutesUntilDone_65 : decode (AM.bytes M_X0_minutesUntilDone) 65 = .ok (.invokevirtual 45, 3) := by decide +kernel
theorem g_X0_minutesUntilDone_68_9 : ab_oks M_X0_minutesUntilDone [(68, .iload 4, 2, 4, 0, 0, .null), (70, .iadd, 1, 0, 0, 0, .null), (71, .istore 5, 2, 5, 0, 0, .null), (73, .iload_n 1, 1, 1, 0, 0, .null), (74, .iload 5, 2, 5, 0, 0, .null), (76, .invokestatic 117, 3, 1, 0, 352, .null), (79, .istore_n 1, 1, 1, 0, 0, .null), (80, .iinc 2 1, 3, 2, 0, 0, .int (nI (1))), (83, .goto (-79), 3, 4, 0, 0, .null)] = true := by decide +kernel
theorem g_X0_minutesUntilDone_54_9 : ab_oks M_X0_minutesUntilDone [(54, .iconst 0, 1, 0, 0, 0, .int (nI (0))), (55, .goto 16, 3, 71, 0, 0, .null), (71, .istore 5, 2, 5, 0, 0, .null), (73, .iload_n 1, 1, 1, 0, 0, .null), (74, .iload 5, 2, 5, 0, 0, .null), (76, .invokestatic 117, 3, 1, 0, 352, .null), (79, .istore_n 1, 1, 1, 0, 0, .null), (80, .iinc 2 1, 3, 2, 0, 0, .int (nI (1))), (83, .goto (-79), 3, 4, 0, 0, .null)] = true := by decide +kernel
theorem g_X0_minutesUntilDone_86_2 : ab_oks M_X0_minutesUntilDone [(86, .iload_n 1, 1, 1, 0, 0, .null), (87, .sipush 2000, 3, 0, 0, 0, .int (nI (2000)))] = true := by decide +kernel
theorem dc_X0_minutesUntilDone_90 : decode (AM.bytes M_X0_minutesUntilDone) 90 = .ok (.if_icmp .le 7, 3) := by decide +kernel
theorem g_X0_minutesUntilDone_97_1 : ab_oks M_X0_minutesUntilDone [(97, .iload_n 1, 1, 1, 0, 0, .null)] = true := by decide +kernel
theorem dc_X0_minutesUntilDone_98 : decode (AM.bytes M_X0_minutesUntilDone) 98 = .ok (.ireturn, 1) := by decide +kernel
theorem g_X0_minutesUntilDone_93_2 : ab_oks M_X0_minutesUntilDone [(93, .iconst (-1), 1, 0, 0, 0, .int (-1)), (94, .goto 4, 3, 98, 0, 0, .null)] = true := by decide +kernel
set_option maxRecDepth 100000 in
set_option maxHeartbeats 4000000 in
theorem s_0minutesUntilDone {E : AE} (d : Nat) {nv : Nat} {nc : Nat} {nr : Nat} {ne : Nat}  {o0 t0 p0 m0 u0 l0 : List AC} {T K : Nat → Nat → Int32} {os sc : Int32} (hT : TI T nv nc nr ne) : CT E M_X0_minutesUntilDone (d + 3) [.ref 4097] (hp o0 (ar T K os sc) t0 p0 m0 u0 l0) (.inl (some (.int (F_0minutesUntilDone nc T)))) (hp o0 (ar (F_0minutesUntilDone_T nc T) K os sc) t0 p0 m0 u0 l0) 0 0 := by
  obtain ⟨⟨hnv, h12⟩, ⟨hnc, h4⟩, ⟨hnr, h3⟩, ⟨hne, h60⟩, hLT, hHT⟩ := id hT
  refine CT.of (L := [some (.ref 4097), none, none, none, none, none]) rfl rfl ?_
  refine AR.run g_X0_minutesUntilDone_0_4 4 [some (.ref 4097), some (.int (nI (0))), some (.int (nI (0))), none, none, none] [] _ [] rfl trivial ?_
  refine AR.cast (L' := [some (.ref 4097), some (.int ((L_0minutesUntilDone_4 T 0).1)), some (.int (nI (0))), none, none, none]) (by first | rfl | (rw [L_0minutesUntilDone_4])) rfl (by first | rfl | (rw [L_0minutesUntilDone_4])) (AR.loopN nc (fun j4 => [some (.ref 4097), some (.int ((L_0minutesUntilDone_4 T j4).1)), some (.int (nI (j4))), none, none, none]) (fun j4 => (hp o0 (ar ((L_0minutesUntilDone_4 T j4).2) K os sc) t0 p0 m0 u0 l0)) (fun j4 => True) (fun j4 hj4 hI4 ih4 => ?_) (fun hI4 => ?_) 0 (by omega) (by first | trivial | omega))
  · have hA_0 : TI ((L_0minutesUntilDone_4 T j4).2) nv nc nr ne := TI_mUD hT h4 j4 (by omega)
    refine AR.run g_X0_minutesUntilDone_4_3 7 [some (.ref 4097), some (.int ((L_0minutesUntilDone_4 T j4).1)), some (.int (nI (j4))), none, none, none] [.int (nI (1)), .ref 4097, .int (nI (j4))] _ [] rfl trivial ?_
    refine AR.callV1 (4097) [.int (nI (1))] [.int (nI (j4))] lk_0_56 dc_X0_minutesUntilDone_7 rfl rfl (s_0number _ 1 (by omega)) (by first | rfl | (simp only [nI_add, pk_mul]; first | done | rfl)) rfl ?_
    refine AR.top hA_0.2.1.1 ?_
    refine AR.ge2N (tgt := 86) (a := j4) (b := nc) dc_X0_minutesUntilDone_10 (by decide) (by first | rfl | (simp only [nI_add, pk_mul]; first | done | rfl)) (by first | rfl | (simp only [nI_add, pk_mul]; first | done | rfl)) (by omega) (by omega) (fun c10_1 => absurd c10_1 (by omega)) (fun c10_1 => ?_)
    refine AR.run g_X0_minutesUntilDone_13_2 15 [some (.ref 4097), some (.int ((L_0minutesUntilDone_4 T j4).1)), some (.int (nI (j4))), none, none, none] [.int (nI (j4)), .ref 4097] _ [] rfl trivial ?_
    refine AR.callV1 (4097) [.int (nI (j4))] [] lk_0_92 dc_X0_minutesUntilDone_15 rfl rfl (s_0isFree _ j4 (by omega)) (by first | rfl | (simp only [nI_add, pk_mul]; first | done | rfl)) rfl ?_
    refine AR.ne (tgt := 80) dc_X0_minutesUntilDone_18 (by decide) (fun c18_2 => ?_) (fun c18_2 => ?_)
    · refine AR.run g_X0_minutesUntilDone_80_2 4 [some (.ref 4097), some (.int ((L_0minutesUntilDone_4 T j4).1)), some (.int ((nI (j4)) + (nI (1)))), none, none, none] [] _ [] rfl trivial ?_
      have e3 : L_0minutesUntilDone_4 T (j4 + 1) = ((L_0minutesUntilDone_4 T j4).1, (L_0minutesUntilDone_4 T j4).2) := by rw [L_0minutesUntilDone_4, B_0minutesUntilDone_4, if_neg c18_2]
      exact AR.cast (L' := [some (.ref 4097), some (.int ((L_0minutesUntilDone_4 T (j4 + 1)).1)), some (.int (nI (j4 + 1))), none, none, none]) (by rw [e3, nI_add]) rfl (by rw [e3]) (ih4 (by first | trivial | omega))
    · refine AR.run g_X0_minutesUntilDone_21_4 27 [some (.ref 4097), some (.int ((L_0minutesUntilDone_4 T j4).1)), some (.int (nI (j4))), none, none, none] [.int (nI (2)), .int (nI (j4)), .ref 4104] _ [] rfl trivial ?_
      refine AR.callV1 (4104) [.int (nI (j4)), .int (nI (2))] [] lk_0_45 dc_X0_minutesUntilDone_27 rfl rfl (s_3atT2 _ j4 2 (by omega) (by omega)) (by first | rfl | (simp only [nI_add, pk_mul]; first | done | rfl)) rfl ?_
      refine AR.run g_X0_minutesUntilDone_30_1 31 [some (.ref 4097), some (.int ((L_0minutesUntilDone_4 T j4).1)), some (.int (nI (j4))), some (.int ((((L_0minutesUntilDone_4 T j4).2) 2) (j4 * 5 + 2))), none, none] [] _ [] rfl trivial ?_
      have hfr := isFree_0 (by assumption)
      obtain ⟨hx9, hy9⟩ := QI_get (by omega) (hA_0.2.2.2.2.2 _ (by omega)) hfr
      refine AR.cast (L' := [some (.ref 4097), some (.int ((L_0minutesUntilDone_4 T j4).1)), some (.int (nI (j4))), some (.int (nI (((((L_0minutesUntilDone_4 T j4).2) 2) (j4 * 5 + 2)).toNatClampNeg))), none, none]) (by rw [← hx9]) rfl rfl ?_
      refine AR.run g_X0_minutesUntilDone_31_3 34 [some (.ref 4097), some (.int ((L_0minutesUntilDone_4 T j4).1)), some (.int (nI (j4))), some (.int (nI (((((L_0minutesUntilDone_4 T j4).2) 2) (j4 * 5 + 2)).toNatClampNeg))), none, none] [.int (nI (((((L_0minutesUntilDone_4 T j4).2) 2) (j4 * 5 + 2)).toNatClampNeg)), .int (nI (j4)), .ref 4097] _ [] rfl trivial ?_
      refine AR.callV0 (4097) [.int (nI (j4)), .int (nI (((((L_0minutesUntilDone_4 T j4).2) 2) (j4 * 5 + 2)).toNatClampNeg))] [] lk_0_127 dc_X0_minutesUntilDone_34 rfl rfl (s_0copyForTrial _ j4 (((((L_0minutesUntilDone_4 T j4).2) 2) (j4 * 5 + 2)).toNatClampNeg) (by omega) (by omega)) (by first | rfl | (simp only [nI_add, pk_mul]; first | done | rfl)) rfl ?_
      refine AR.run g_X0_minutesUntilDone_37_4 44 [some (.ref 4097), some (.int ((L_0minutesUntilDone_4 T j4).1)), some (.int (nI (j4))), some (.int (nI (((((L_0minutesUntilDone_4 T j4).2) 2) (j4 * 5 + 2)).toNatClampNeg))), none, none] [.int (nI (2001)), .int (nI (12)), .int (nI (4)), .ref 4097] _ [] rfl trivial ?_
      refine AR.callV1 (4097) [.int (nI (4)), .int (nI (12)), .int (nI (2001))] [] lk_0_114 dc_X0_minutesUntilDone_44 rfl rfl (s_0workFor _ 4 12 (nI (2001)) (by omega) (by omega) (HLv_trial (by first | assumption | exact hA_0.2.2.2.2.1 _ (by omega)))) (by first | rfl | (simp only [nI_add, pk_mul]; first | done | rfl)) rfl ?_
      refine AR.run g_X0_minutesUntilDone_47_2 51 [some (.ref 4097), some (.int ((L_0minutesUntilDone_4 T j4).1)), some (.int (nI (j4))), some (.int (nI (((((L_0minutesUntilDone_4 T j4).2) 2) (j4 * 5 + 2)).toNatClampNeg))), some (.int (F_0workFor 4 12 (nI (2001)) (F_0copyForTrial_T j4 (((((L_0minutesUntilDone_4 T j4).2) 2) (j4 * 5 + 2)).toNatClampNeg) ((L_0minutesUntilDone_4 T j4).2)))), none] [.int (F_0workFor 4 12 (nI (2001)) (F_0copyForTrial_T j4 (((((L_0minutesUntilDone_4 T j4).2) 2) (j4 * 5 + 2)).toNatClampNeg) ((L_0minutesUntilDone_4 T j4).2)))] _ [] rfl trivial ?_
      refine AR.ne (tgt := 58) dc_X0_minutesUntilDone_51 (by decide) (fun c51_4 => ?_) (fun c51_4 => ?_)
      · refine AR.run g_X0_minutesUntilDone_58_4 65 [some (.ref 4097), some (.int ((L_0minutesUntilDone_4 T j4).1)), some (.int (nI (j4))), some (.int (nI (((((L_0minutesUntilDone_4 T j4).2) 2) (j4 * 5 + 2)).toNatClampNeg))), some (.int (F_0workFor 4 12 (nI (2001)) (F_0copyForTrial_T j4 (((((L_0minutesUntilDone_4 T j4).2) 2) (j4 * 5 + 2)).toNatClampNeg) ((L_0minutesUntilDone_4 T j4).2)))), none] [.int (nI (6)), .int (nI (((((L_0minutesUntilDone_4 T j4).2) 2) (j4 * 5 + 2)).toNatClampNeg)), .ref 4098] _ [] rfl trivial ?_
        refine AR.callV1 (4098) [.int (nI (((((L_0minutesUntilDone_4 T j4).2) 2) (j4 * 5 + 2)).toNatClampNeg)), .int (nI (6))] [] lk_0_45 dc_X0_minutesUntilDone_65 rfl rfl (s_3atT0 _ (((((L_0minutesUntilDone_4 T j4).2) 2) (j4 * 5 + 2)).toNatClampNeg) 6 (by omega) (by omega)) (by first | rfl | (simp only [nI_add, pk_mul]; first | done | rfl)) rfl ?_
        refine AR.run g_X0_minutesUntilDone_68_9 4 [some (.ref 4097), some (.int (if ((L_0minutesUntilDone_4 T j4).1) < ((((F_0workFor_T 4 12 (nI (2001)) (F_0copyForTrial_T j4 (((((L_0minutesUntilDone_4 T j4).2) 2) (j4 * 5 + 2)).toNatClampNeg) ((L_0minutesUntilDone_4 T j4).2))) 0) ((((((L_0minutesUntilDone_4 T j4).2) 2) (j4 * 5 + 2)).toNatClampNeg) * 7 + 6)) + (F_0workFor 4 12 (nI (2001)) (F_0copyForTrial_T j4 (((((L_0minutesUntilDone_4 T j4).2) 2) (j4 * 5 + 2)).toNatClampNeg) ((L_0minutesUntilDone_4 T j4).2)))) then ((((F_0workFor_T 4 12 (nI (2001)) (F_0copyForTrial_T j4 (((((L_0minutesUntilDone_4 T j4).2) 2) (j4 * 5 + 2)).toNatClampNeg) ((L_0minutesUntilDone_4 T j4).2))) 0) ((((((L_0minutesUntilDone_4 T j4).2) 2) (j4 * 5 + 2)).toNatClampNeg) * 7 + 6)) + (F_0workFor 4 12 (nI (2001)) (F_0copyForTrial_T j4 (((((L_0minutesUntilDone_4 T j4).2) 2) (j4 * 5 + 2)).toNatClampNeg) ((L_0minutesUntilDone_4 T j4).2)))) else ((L_0minutesUntilDone_4 T j4).1))), some (.int ((nI (j4)) + (nI (1)))), some (.int (nI (((((L_0minutesUntilDone_4 T j4).2) 2) (j4 * 5 + 2)).toNatClampNeg))), some (.int (F_0workFor 4 12 (nI (2001)) (F_0copyForTrial_T j4 (((((L_0minutesUntilDone_4 T j4).2) 2) (j4 * 5 + 2)).toNatClampNeg) ((L_0minutesUntilDone_4 T j4).2)))), some (.int ((((F_0workFor_T 4 12 (nI (2001)) (F_0copyForTrial_T j4 (((((L_0minutesUntilDone_4 T j4).2) 2) (j4 * 5 + 2)).toNatClampNeg) ((L_0minutesUntilDone_4 T j4).2))) 0) ((((((L_0minutesUntilDone_4 T j4).2) 2) (j4 * 5 + 2)).toNatClampNeg) * 7 + 6)) + (F_0workFor 4 12 (nI (2001)) (F_0copyForTrial_T j4 (((((L_0minutesUntilDone_4 T j4).2) 2) (j4 * 5 + 2)).toNatClampNeg) ((L_0minutesUntilDone_4 T j4).2)))))] [] _ [] rfl trivial ?_
        refine AR.drop (L' := [some (.ref 4097), some (.int (if ((L_0minutesUntilDone_4 T j4).1) < ((((F_0workFor_T 4 12 (nI (2001)) (F_0copyForTrial_T j4 (((((L_0minutesUntilDone_4 T j4).2) 2) (j4 * 5 + 2)).toNatClampNeg) ((L_0minutesUntilDone_4 T j4).2))) 0) ((((((L_0minutesUntilDone_4 T j4).2) 2) (j4 * 5 + 2)).toNatClampNeg) * 7 + 6)) + (F_0workFor 4 12 (nI (2001)) (F_0copyForTrial_T j4 (((((L_0minutesUntilDone_4 T j4).2) 2) (j4 * 5 + 2)).toNatClampNeg) ((L_0minutesUntilDone_4 T j4).2)))) then ((((F_0workFor_T 4 12 (nI (2001)) (F_0copyForTrial_T j4 (((((L_0minutesUntilDone_4 T j4).2) 2) (j4 * 5 + 2)).toNatClampNeg) ((L_0minutesUntilDone_4 T j4).2))) 0) ((((((L_0minutesUntilDone_4 T j4).2) 2) (j4 * 5 + 2)).toNatClampNeg) * 7 + 6)) + (F_0workFor 4 12 (nI (2001)) (F_0copyForTrial_T j4 (((((L_0minutesUntilDone_4 T j4).2) 2) (j4 * 5 + 2)).toNatClampNeg) ((L_0minutesUntilDone_4 T j4).2)))) else ((L_0minutesUntilDone_4 T j4).1))), some (.int ((nI (j4)) + (nI (1)))), none, none, none]) ⟨rfl, rfl, rfl, trivial⟩ ?_
        have e5 : L_0minutesUntilDone_4 T (j4 + 1) = (if ((L_0minutesUntilDone_4 T j4).1) < ((((F_0workFor_T 4 12 (nI (2001)) (F_0copyForTrial_T j4 (((((L_0minutesUntilDone_4 T j4).2) 2) (j4 * 5 + 2)).toNatClampNeg) ((L_0minutesUntilDone_4 T j4).2))) 0) ((((((L_0minutesUntilDone_4 T j4).2) 2) (j4 * 5 + 2)).toNatClampNeg) * 7 + 6)) + (F_0workFor 4 12 (nI (2001)) (F_0copyForTrial_T j4 (((((L_0minutesUntilDone_4 T j4).2) 2) (j4 * 5 + 2)).toNatClampNeg) ((L_0minutesUntilDone_4 T j4).2)))) then ((((F_0workFor_T 4 12 (nI (2001)) (F_0copyForTrial_T j4 (((((L_0minutesUntilDone_4 T j4).2) 2) (j4 * 5 + 2)).toNatClampNeg) ((L_0minutesUntilDone_4 T j4).2))) 0) ((((((L_0minutesUntilDone_4 T j4).2) 2) (j4 * 5 + 2)).toNatClampNeg) * 7 + 6)) + (F_0workFor 4 12 (nI (2001)) (F_0copyForTrial_T j4 (((((L_0minutesUntilDone_4 T j4).2) 2) (j4 * 5 + 2)).toNatClampNeg) ((L_0minutesUntilDone_4 T j4).2)))) else ((L_0minutesUntilDone_4 T j4).1), F_0workFor_T 4 12 (nI (2001)) (F_0copyForTrial_T j4 (((((L_0minutesUntilDone_4 T j4).2) 2) (j4 * 5 + 2)).toNatClampNeg) ((L_0minutesUntilDone_4 T j4).2))) := by rw [L_0minutesUntilDone_4, B_0minutesUntilDone_4, if_pos c18_2, if_neg c51_4]
        exact AR.cast (L' := [some (.ref 4097), some (.int ((L_0minutesUntilDone_4 T (j4 + 1)).1)), some (.int (nI (j4 + 1))), none, none, none]) (by rw [e5, nI_add]) rfl (by rw [e5]) (ih4 (by first | trivial | omega))
      · refine AR.run g_X0_minutesUntilDone_54_9 4 [some (.ref 4097), some (.int (if ((L_0minutesUntilDone_4 T j4).1) < (nI (0)) then (nI (0)) else ((L_0minutesUntilDone_4 T j4).1))), some (.int ((nI (j4)) + (nI (1)))), some (.int (nI (((((L_0minutesUntilDone_4 T j4).2) 2) (j4 * 5 + 2)).toNatClampNeg))), some (.int (F_0workFor 4 12 (nI (2001)) (F_0copyForTrial_T j4 (((((L_0minutesUntilDone_4 T j4).2) 2) (j4 * 5 + 2)).toNatClampNeg) ((L_0minutesUntilDone_4 T j4).2)))), some (.int (nI (0)))] [] _ [] rfl trivial ?_
        refine AR.drop (L' := [some (.ref 4097), some (.int (if ((L_0minutesUntilDone_4 T j4).1) < (nI (0)) then (nI (0)) else ((L_0minutesUntilDone_4 T j4).1))), some (.int ((nI (j4)) + (nI (1)))), none, none, none]) ⟨rfl, rfl, rfl, trivial⟩ ?_
        have e6 : L_0minutesUntilDone_4 T (j4 + 1) = (if ((L_0minutesUntilDone_4 T j4).1) < (nI (0)) then (nI (0)) else ((L_0minutesUntilDone_4 T j4).1), F_0workFor_T 4 12 (nI (2001)) (F_0copyForTrial_T j4 (((((L_0minutesUntilDone_4 T j4).2) 2) (j4 * 5 + 2)).toNatClampNeg) ((L_0minutesUntilDone_4 T j4).2))) := by rw [L_0minutesUntilDone_4, B_0minutesUntilDone_4, if_pos c18_2, if_pos c51_4]
        exact AR.cast (L' := [some (.ref 4097), some (.int ((L_0minutesUntilDone_4 T (j4 + 1)).1)), some (.int (nI (j4 + 1))), none, none, none]) (by rw [e6, nI_add]) rfl (by rw [e6]) (ih4 (by first | trivial | omega))
  · have hA_6 : TI ((L_0minutesUntilDone_4 T nc).2) nv nc nr ne := TI_mUD hT h4 nc (by omega)
    refine AR.run g_X0_minutesUntilDone_4_3 7 [some (.ref 4097), some (.int ((L_0minutesUntilDone_4 T nc).1)), some (.int (nI (nc))), none, none, none] [.int (nI (1)), .ref 4097, .int (nI (nc))] _ [] rfl trivial ?_
    refine AR.callV1 (4097) [.int (nI (1))] [.int (nI (nc))] lk_0_56 dc_X0_minutesUntilDone_7 rfl rfl (s_0number _ 1 (by omega)) (by first | rfl | (simp only [nI_add, pk_mul]; first | done | rfl)) rfl ?_
    refine AR.top hA_6.2.1.1 ?_
    refine AR.ge2N (tgt := 86) (a := nc) (b := nc) dc_X0_minutesUntilDone_10 (by decide) (by first | rfl | (simp only [nI_add, pk_mul]; first | done | rfl)) (by first | rfl | (simp only [nI_add, pk_mul]; first | done | rfl)) (by omega) (by omega) (fun c10_7 => ?_) (fun c10_7 => absurd c10_7 (by omega))
    refine AR.run g_X0_minutesUntilDone_86_2 90 [some (.ref 4097), some (.int ((L_0minutesUntilDone_4 T nc).1)), some (.int (nI (nc))), none, none, none] [.int (nI (2000)), .int ((L_0minutesUntilDone_4 T nc).1)] _ [] rfl trivial ?_
    refine AR.le2 (tgt := 97) dc_X0_minutesUntilDone_90 (by decide) (fun c90_8 => ?_) (fun c90_8 => ?_)
    · refine AR.run g_X0_minutesUntilDone_97_1 98 [some (.ref 4097), some (.int ((L_0minutesUntilDone_4 T nc).1)), some (.int (nI (nc))), none, none, none] [.int ((L_0minutesUntilDone_4 T nc).1)] _ [] rfl trivial ?_
      have e9_0 : F_0minutesUntilDone nc T = ((L_0minutesUntilDone_4 T nc).1) := by rw [F_0minutesUntilDone, if_pos c90_8]
      have e9_1 : F_0minutesUntilDone_T nc T = ((L_0minutesUntilDone_4 T nc).2) := by rw [F_0minutesUntilDone_T, if_pos c90_8]
      exact AR.retI dc_X0_minutesUntilDone_98 rfl e9_0.symm (by rw [e9_1])
    · refine AR.run g_X0_minutesUntilDone_93_2 98 [some (.ref 4097), some (.int ((L_0minutesUntilDone_4 T nc).1)), some (.int (nI (nc))), none, none, none] [.int (-1)] _ [] rfl trivial ?_
      have e10_0 : F_0minutesUntilDone nc T = (-1) := by rw [F_0minutesUntilDone, if_neg c90_8]
      have e10_1 : F_0minutesUntilDone_T nc T = ((L_0minutesUntilDone_4 T nc).2) := by rw [F_0minutesUntilDone_T, if_neg c90_8]
      exact AR.retI dc_X0_minutesUntilDone_98 rfl e10_0.symm (by rw [e10_1])
def B_0letMinutesPass_4 (m : Int32) (j4 : Nat) (x4_2 : Int32) (y4_ar0 : Nat → Nat → Int32) : (Int32) × (Nat → Nat → Int32) := if (F_0isFree j4 y4_ar0) = 0 then (x4_2 + ((((F_0workFor_T j4 (((y4_ar0 2) (j4 * 5 + 2)).toNatClampNeg) (m - ((y4_ar0 0) ((((y4_ar0 2) (j4 * 5 + 2)).toNatClampNeg) * 7 + 6))) y4_ar0) 2) (j4 * 5 + 4)) - ((y4_ar0 2) (j4 * 5 + 4))), F_0workFor_T j4 (((y4_ar0 2) (j4 * 5 + 2)).toNatClampNeg) (m - ((y4_ar0 0) ((((y4_ar0 2) (j4 * 5 + 2)).toNatClampNeg) * 7 + 6))) y4_ar0) else (x4_2 + (((y4_ar0 2) (j4 * 5 + 4)) - ((y4_ar0 2) (j4 * 5 + 4))), y4_ar0)
def L_0letMinutesPass_4 (m : Int32) (T : Nat → Nat → Int32) : Nat → (Int32) × (Nat → Nat → Int32)
  | 0 => (nI (0), T)
  | j + 1 => B_0letMinutesPass_4 m j ((L_0letMinutesPass_4 m T  j).1) ((L_0letMinutesPass_4 m T  j).2)
def B_0letMinutesPass_87 (m : Int32) (j87 : Nat) (y87_ar0 : Nat → Nat → Int32) : (Nat → Nat → Int32) := (tu y87_ar0 3 (upd (y87_ar0 3) ((j87 * 4) + 1) (if (nI (0)) < (((y87_ar0 3) (j87 * 4 + 1)) - m) then (((y87_ar0 3) (j87 * 4 + 1)) - m) else (nI (0)))))
def L_0letMinutesPass_87 (m : Int32) (nc : Nat) (T : Nat → Nat → Int32) : Nat → (Nat → Nat → Int32)
  | 0 => (L_0letMinutesPass_4 m T nc).2
  | j + 1 => B_0letMinutesPass_87 m j (L_0letMinutesPass_87 m nc T  j)
def B_0letMinutesPass_128 (m : Int32) (j128 : Nat) (y128_ar0 : Nat → Nat → Int32) : (Nat → Nat → Int32) := (tu y128_ar0 0 (upd (y128_ar0 0) ((j128 * 7) + 6) (if (nI (0)) < (((y128_ar0 0) (j128 * 7 + 6)) - m) then (((y128_ar0 0) (j128 * 7 + 6)) - m) else (nI (0)))))
def L_0letMinutesPass_128 (m : Int32) (nc : Nat) (nr : Nat) (T : Nat → Nat → Int32) : Nat → (Nat → Nat → Int32)
  | 0 => L_0letMinutesPass_87 m nc T nr
  | j + 1 => B_0letMinutesPass_128 m j (L_0letMinutesPass_128 m nc nr T  j)
theorem TI_lp4 {m : Int32} {T : Nat → Nat → Int32} {nv nc nr ne : Nat} (hT : TI T nv nc nr ne) (h4 : nc ≤ 4) : ∀ j : Nat, j ≤ 4 → TI (L_0letMinutesPass_4 m T j).2 nv nc nr ne
  | 0, _ => hT
  | j + 1, h => by
    have ih := TI_lp4 (m := m) hT h4 j (by omega)
    show TI (B_0letMinutesPass_4 m j (L_0letMinutesPass_4 m T j).1 (L_0letMinutesPass_4 m T j).2).2 nv nc nr ne
    unfold B_0letMinutesPass_4
    split
    · rename_i h0
      obtain ⟨-, h2⟩ := QI_get (by omega) (ih.2.2.2.2.2 j (by omega)) (isFree_0 h0)
      exact TI_FR ih (wf_FR (ih.2.2.2.2.1 _ h2))
    · exact ih
theorem TI_lp87 {m : Int32} {T : Nat → Nat → Int32} {nv nc nr ne : Nat} (hT : TI T nv nc nr ne) (h4 : nc ≤ 4) : ∀ j : Nat, TI (L_0letMinutesPass_87 m nc T j) nv nc nr ne
  | 0 => TI_lp4 hT h4 nc h4
  | j + 1 => by
    have ih := TI_lp87 (m := m) hT h4 j
    exact TI_of ih rfl rfl rfl rfl (fun _ _ => rfl) (fun c9 h9 => ih.2.2.2.2.2 c9 h9)
theorem TI_lp128 {m : Int32} {T : Nat → Nat → Int32} {nv nc nr ne : Nat} (hT : TI T nv nc nr ne) (h4 : nc ≤ 4) : ∀ j : Nat, TI (L_0letMinutesPass_128 m nc nr T j) nv nc nr ne
  | 0 => TI_lp87 hT h4 nr
  | j + 1 => by
    have ih := TI_lp128 (m := m) hT h4 j
    refine TI_of ih rfl rfl rfl rfl (fun v9 h9 => ?_) (fun c9 h9 => ih.2.2.2.2.2 c9 h9)
    show upd _ _ _ _ = _
    rw [upd_ne (by omega)]
def F_0letMinutesPass (m : Int32) (nc : Nat) (T : Nat → Nat → Int32) : Int32 := ((L_0letMinutesPass_4 m T nc).1)
def F_0letMinutesPass_T (m : Int32) (nv : Nat) (nc : Nat) (nr : Nat) (T : Nat → Nat → Int32) : Nat → Nat → Int32 := (tu (L_0letMinutesPass_128 m nc nr T nv) 5 (upd ((L_0letMinutesPass_128 m nc nr T nv) 5) 3 ((((L_0letMinutesPass_128 m nc nr T nv) 5) 3) + m)))
theorem g_X0_letMinutesPass_0_4 : ab_oks M_X0_letMinutesPass [(0, .iconst 0, 1, 0, 0, 0, .int (nI (0))), (1, .istore_n 2, 1, 2, 0, 0, .null), (2, .iconst 0, 1, 0, 0, 0, .int (nI (0))), (3, .istore_n 3, 1, 3, 0, 0, .null)] = true := by decide +kernel
theorem g_X0_letMinutesPass_4_3 : ab_oks M_X0_letMinutesPass [(4, .iload_n 3, 1, 3, 0, 0, .null), (5, .aload_n 0, 1, 0, 0, 0, .null), (6, .iconst 1, 1, 0, 0, 0, .int (nI (1)))] = true := by decide +kernel
theorem dc_X0_letMinutesPass_7 : decode (AM.bytes M_X0_letMinutesPass) 7 = .ok (.invokevirtual 56, 3) := by decide +kernel
theorem dc_X0_letMinutesPass_10 : decode (AM.bytes M_X0_letMinutesPass) 10 = .ok (.if_icmp .ge 75, 3) := by decide +kernel
theorem g_X0_letMinutesPass_13_4 : ab_oks M_X0_letMinutesPass [(13, .aload_n 0, 1, 0, 0, 0, .null), (14, .getfield 23, 3, 0, 2, 155, .null), (17, .iload_n 3, 1, 3, 0, 0, .null), (18, .iconst 4, 1, 0, 0, 0, .int (nI (4)))] = true := by decide +kernel
theorem dc_X0_letMinutesPass_19 : decode (AM.bytes M_X0_letMinutesPass) 19 = .ok (.invokevirtual 45, 3) := by decide +kernel
theorem g_X0_letMinutesPass_22_3 : ab_oks M_X0_letMinutesPass [(22, .istore 4, 2, 4, 0, 0, .null), (24, .aload_n 0, 1, 0, 0, 0, .null), (25, .iload_n 3, 1, 3, 0, 0, .null)] = true := by decide +kernel
theorem dc_X0_letMinutesPass_26 : decode (AM.bytes M_X0_letMinutesPass) 26 = .ok (.invokevirtual 92, 3) := by decide +kernel
theorem dc_X0_letMinutesPass_29 : decode (AM.bytes M_X0_letMinutesPass) 29 = .ok (.ifCond .ne 35, 3) := by decide +kernel
theorem g_X0_letMinutesPass_64_5 : ab_oks M_X0_letMinutesPass [(64, .iload_n 2, 1, 2, 0, 0, .null), (65, .aload_n 0, 1, 0, 0, 0, .null), (66, .getfield 23, 3, 0, 2, 155, .null), (69, .iload_n 3, 1, 3, 0, 0, .null), (70, .iconst 4, 1, 0, 0, 0, .int (nI (4)))] = true := by decide +kernel
theorem dc_X0_letMinutesPass_71 : decode (AM.bytes M_X0_letMinutesPass) 71 = .ok (.invokevirtual 45, 3) := by decide +kernel
theorem g_X0_letMinutesPass_74_6 : ab_oks M_X0_letMinutesPass [(74, .iload 4, 2, 4, 0, 0, .null), (76, .isub, 1, 0, 0, 0, .null), (77, .iadd, 1, 0, 0, 0, .null), (78, .istore_n 2, 1, 2, 0, 0, .null), (79, .iinc 3 1, 3, 3, 0, 0, .int (nI (1))), (82, .goto (-78), 3, 4, 0, 0, .null)] = true := by decide +kernel
theorem g_X0_letMinutesPass_32_4 : ab_oks M_X0_letMinutesPass [(32, .aload_n 0, 1, 0, 0, 0, .null), (33, .getfield 23, 3, 0, 2, 155, .null), (36, .iload_n 3, 1, 3, 0, 0, .null), (37, .iconst 2, 1, 0, 0, 0, .int (nI (2)))] = true := by decide +kernel
theorem dc_X0_letMinutesPass_38 : decode (AM.bytes M_X0_letMinutesPass) 38 = .ok (.invokevirtual 45, 3) := by decide +kernel
theorem g_X0_letMinutesPass_41_1 : ab_oks M_X0_letMinutesPass [(41, .istore 5, 2, 5, 0, 0, .null)] = true := by decide +kernel
theorem g_X0_letMinutesPass_43_8 : ab_oks M_X0_letMinutesPass [(43, .aload_n 0, 1, 0, 0, 0, .null), (44, .iload_n 3, 1, 3, 0, 0, .null), (45, .iload 5, 2, 5, 0, 0, .null), (47, .iload_n 1, 1, 1, 0, 0, .null), (48, .aload_n 0, 1, 0, 0, 0, .null), (49, .getfield 14, 3, 0, 0, 153, .null), (52, .iload 5, 2, 5, 0, 0, .null), (54, .bipush 6, 2, 0, 0, 0, .int (nI (6)))] = true := by decide +kernel
theorem dc_X0_letMinutesPass_56 : decode (AM.bytes M_X0_letMinutesPass) 56 = .ok (.invokevirtual 45, 3) := by decide +kernel
theorem g_X0_letMinutesPass_59_1 : ab_oks M_X0_letMinutesPass [(59, .isub, 1, 0, 0, 0, .null)] = true := by decide +kernel
theorem dc_X0_letMinutesPass_60 : decode (AM.bytes M_X0_letMinutesPass) 60 = .ok (.invokevirtual 114, 3) := by decide +kernel
theorem g_X0_letMinutesPass_63_6 : ab_oks M_X0_letMinutesPass [(63, .pop, 1, 0, 0, 0, .null), (64, .iload_n 2, 1, 2, 0, 0, .null), (65, .aload_n 0, 1, 0, 0, 0, .null), (66, .getfield 23, 3, 0, 2, 155, .null), (69, .iload_n 3, 1, 3, 0, 0, .null), (70, .iconst 4, 1, 0, 0, 0, .int (nI (4)))] = true := by decide +kernel
theorem g_X0_letMinutesPass_85_2 : ab_oks M_X0_letMinutesPass [(85, .iconst 0, 1, 0, 0, 0, .int (nI (0))), (86, .istore_n 3, 1, 3, 0, 0, .null)] = true := by decide +kernel
theorem g_X0_letMinutesPass_87_3 : ab_oks M_X0_letMinutesPass [(87, .iload_n 3, 1, 3, 0, 0, .null), (88, .aload_n 0, 1, 0, 0, 0, .null), (89, .iconst 2, 1, 0, 0, 0, .int (nI (2)))] = true := by decide +kernel
theorem dc_X0_letMinutesPass_90 : decode (AM.bytes M_X0_letMinutesPass) 90 = .ok (.invokevirtual 56, 3) := by decide +kernel
theorem dc_X0_letMinutesPass_93 : decode (AM.bytes M_X0_letMinutesPass) 93 = .ok (.if_icmp .ge 33, 3) := by decide +kernel
theorem g_X0_letMinutesPass_96_9 : ab_oks M_X0_letMinutesPass [(96, .aload_n 0, 1, 0, 0, 0, .null), (97, .getfield 26, 3, 0, 3, 156, .null), (100, .iload_n 3, 1, 3, 0, 0, .null), (101, .iconst 1, 1, 0, 0, 0, .int (nI (1))), (102, .iconst 0, 1, 0, 0, 0, .int (nI (0))), (103, .aload_n 0, 1, 0, 0, 0, .null), (104, .getfield 26, 3, 0, 3, 156, .null), (107, .iload_n 3, 1, 3, 0, 0, .null), (108, .iconst 1, 1, 0, 0, 0, .int (nI (1)))] = true := by decide +kernel
theorem dc_X0_letMinutesPass_109 : decode (AM.bytes M_X0_letMinutesPass) 109 = .ok (.invokevirtual 45, 3) := by decide +kernel
theorem g_X0_letMinutesPass_112_3 : ab_oks M_X0_letMinutesPass [(112, .iload_n 1, 1, 1, 0, 0, .null), (113, .isub, 1, 0, 0, 0, .null), (114, .invokestatic 117, 3, 1, 0, 352, .null)] = true := by decide +kernel
theorem dc_X0_letMinutesPass_117 : decode (AM.bytes M_X0_letMinutesPass) 117 = .ok (.invokevirtual 42, 3) := by decide +kernel
theorem g_X0_letMinutesPass_120_2 : ab_oks M_X0_letMinutesPass [(120, .iinc 3 1, 3, 3, 0, 0, .int (nI (1))), (123, .goto (-36), 3, 87, 0, 0, .null)] = true := by decide +kernel
theorem g_X0_letMinutesPass_126_2 : ab_oks M_X0_letMinutesPass [(126, .iconst 0, 1, 0, 0, 0, .int (nI (0))), (127, .istore_n 3, 1, 3, 0, 0, .null)] = true := by decide +kernel
theorem g_X0_letMinutesPass_128_3 : ab_oks M_X0_letMinutesPass [(128, .iload_n 3, 1, 3, 0, 0, .null), (129, .aload_n 0, 1, 0, 0, 0, .null), (130, .iconst 0, 1, 0, 0, 0, .int (nI (0)))] = true := by decide +kernel
theorem dc_X0_letMinutesPass_131 : decode (AM.bytes M_X0_letMinutesPass) 131 = .ok (.invokevirtual 56, 3) := by decide +kernel
theorem dc_X0_letMinutesPass_134 : decode (AM.bytes M_X0_letMinutesPass) 134 = .ok (.if_icmp .ge 35, 3) := by decide +kernel
theorem g_X0_letMinutesPass_137_9 : ab_oks M_X0_letMinutesPass [(137, .aload_n 0, 1, 0, 0, 0, .null), (138, .getfield 14, 3, 0, 0, 153, .null), (141, .iload_n 3, 1, 3, 0, 0, .null), (142, .bipush 6, 2, 0, 0, 0, .int (nI (6))), (144, .iconst 0, 1, 0, 0, 0, .int (nI (0))), (145, .aload_n 0, 1, 0, 0, 0, .null), (146, .getfield 14, 3, 0, 0, 153, .null), (149, .iload_n 3, 1, 3, 0, 0, .null), (150, .bipush 6, 2, 0, 0, 0, .int (nI (6)))] = true := by decide +kernel
theorem dc_X0_letMinutesPass_152 : decode (AM.bytes M_X0_letMinutesPass) 152 = .ok (.invokevirtual 45, 3) := by decide +kernel
theorem g_X0_letMinutesPass_155_3 : ab_oks M_X0_letMinutesPass [(155, .iload_n 1, 1, 1, 0, 0, .null), (156, .isub, 1, 0, 0, 0, .null), (157, .invokestatic 117, 3, 1, 0, 352, .null)] = true := by decide +kernel
theorem dc_X0_letMinutesPass_160 : decode (AM.bytes M_X0_letMinutesPass) 160 = .ok (.invokevirtual 42, 3) := by decide +kernel
theorem g_X0_letMinutesPass_163_2 : ab_oks M_X0_letMinutesPass [(163, .iinc 3 1, 3, 3, 0, 0, .int (nI (1))), (166, .goto (-38), 3, 128, 0, 0, .null)] = true := by decide +kernel
theorem g_X0_letMinutesPass_169_5 : ab_oks M_X0_letMinutesPass [(169, .aload_n 0, 1, 0, 0, 0, .null), (170, .getfield 32, 3, 0, 5, 158, .null), (173, .iconst 0, 1, 0, 0, 0, .int (nI (0))), (174, .iconst 3, 1, 0, 0, 0, .int (nI (3))), (175, .iload_n 1, 1, 1, 0, 0, .null)] = true := by decide +kernel
theorem dc_X0_letMinutesPass_176 : decode (AM.bytes M_X0_letMinutesPass) 176 = .ok (.invokevirtual 60, 3) := by decide +kernel
theorem g_X0_letMinutesPass_179_1 : ab_oks M_X0_letMinutesPass [(179, .iload_n 2, 1, 2, 0, 0, .null)] = true := by decide +kernel
theorem dc_X0_letMinutesPass_180 : decode (AM.bytes M_X0_letMinutesPass) 180 = .ok (.ireturn, 1) := by decide +kernel
set_option maxRecDepth 100000 in
set_option maxHeartbeats 4000000 in
theorem s_0letMinutesPass {E : AE} (d : Nat) (m : Int32) {nv : Nat} {nc : Nat} {nr : Nat} {ne : Nat}  {o0 t0 p0 m0 u0 l0 : List AC} {T K : Nat → Nat → Int32} {os sc : Int32} (hT : TI T nv nc nr ne) : CT E M_X0_letMinutesPass (d + 3) [.ref 4097, .int (m)] (hp o0 (ar T K os sc) t0 p0 m0 u0 l0) (.inl (some (.int (F_0letMinutesPass m nc T)))) (hp o0 (ar (F_0letMinutesPass_T m nv nc nr T) K os sc) t0 p0 m0 u0 l0) 0 0 := by
  obtain ⟨⟨hnv, h12⟩, ⟨hnc, h4⟩, ⟨hnr, h3⟩, ⟨hne, h60⟩, hLT, hHT⟩ := id hT
  refine CT.of (L := [some (.ref 4097), some (.int (m)), none, none, none, none]) rfl rfl ?_
  refine AR.run g_X0_letMinutesPass_0_4 4 [some (.ref 4097), some (.int (m)), some (.int (nI (0))), some (.int (nI (0))), none, none] [] _ [] rfl trivial ?_
  refine AR.cast (L' := [some (.ref 4097), some (.int (m)), some (.int ((L_0letMinutesPass_4 m T 0).1)), some (.int (nI (0))), none, none]) (by first | rfl | (rw [L_0letMinutesPass_4])) rfl (by first | rfl | (rw [L_0letMinutesPass_4])) (AR.loopN nc (fun j4 => [some (.ref 4097), some (.int (m)), some (.int ((L_0letMinutesPass_4 m T j4).1)), some (.int (nI (j4))), none, none]) (fun j4 => (hp o0 (ar ((L_0letMinutesPass_4 m T j4).2) K os sc) t0 p0 m0 u0 l0)) (fun j4 => True) (fun j4 hj4 hI4 ih4 => ?_) (fun hI4 => ?_) 0 (by omega) (by first | trivial | omega))
  · have hA_0 : TI ((L_0letMinutesPass_4 m T j4).2) nv nc nr ne := TI_lp4 hT h4 j4 (by omega)
    refine AR.run g_X0_letMinutesPass_4_3 7 [some (.ref 4097), some (.int (m)), some (.int ((L_0letMinutesPass_4 m T j4).1)), some (.int (nI (j4))), none, none] [.int (nI (1)), .ref 4097, .int (nI (j4))] _ [] rfl trivial ?_
    refine AR.callV1 (4097) [.int (nI (1))] [.int (nI (j4))] lk_0_56 dc_X0_letMinutesPass_7 rfl rfl (s_0number _ 1 (by omega)) (by first | rfl | (simp only [nI_add, pk_mul]; first | done | rfl)) rfl ?_
    refine AR.top hA_0.2.1.1 ?_
    refine AR.ge2N (tgt := 85) (a := j4) (b := nc) dc_X0_letMinutesPass_10 (by decide) (by first | rfl | (simp only [nI_add, pk_mul]; first | done | rfl)) (by first | rfl | (simp only [nI_add, pk_mul]; first | done | rfl)) (by omega) (by omega) (fun c10_1 => absurd c10_1 (by omega)) (fun c10_1 => ?_)
    refine AR.run g_X0_letMinutesPass_13_4 19 [some (.ref 4097), some (.int (m)), some (.int ((L_0letMinutesPass_4 m T j4).1)), some (.int (nI (j4))), none, none] [.int (nI (4)), .int (nI (j4)), .ref 4104] _ [] rfl trivial ?_
    refine AR.callV1 (4104) [.int (nI (j4)), .int (nI (4))] [] lk_0_45 dc_X0_letMinutesPass_19 rfl rfl (s_3atT2 _ j4 4 (by omega) (by omega)) (by first | rfl | (simp only [nI_add, pk_mul]; first | done | rfl)) rfl ?_
    refine AR.run g_X0_letMinutesPass_22_3 26 [some (.ref 4097), some (.int (m)), some (.int ((L_0letMinutesPass_4 m T j4).1)), some (.int (nI (j4))), some (.int ((((L_0letMinutesPass_4 m T j4).2) 2) (j4 * 5 + 4))), none] [.int (nI (j4)), .ref 4097] _ [] rfl trivial ?_
    refine AR.callV1 (4097) [.int (nI (j4))] [] lk_0_92 dc_X0_letMinutesPass_26 rfl rfl (s_0isFree _ j4 (by omega)) (by first | rfl | (simp only [nI_add, pk_mul]; first | done | rfl)) rfl ?_
    refine AR.ne (tgt := 64) dc_X0_letMinutesPass_29 (by decide) (fun c29_2 => ?_) (fun c29_2 => ?_)
    · refine AR.run g_X0_letMinutesPass_64_5 71 [some (.ref 4097), some (.int (m)), some (.int ((L_0letMinutesPass_4 m T j4).1)), some (.int (nI (j4))), some (.int ((((L_0letMinutesPass_4 m T j4).2) 2) (j4 * 5 + 4))), none] [.int (nI (4)), .int (nI (j4)), .ref 4104, .int ((L_0letMinutesPass_4 m T j4).1)] _ [] rfl trivial ?_
      refine AR.callV1 (4104) [.int (nI (j4)), .int (nI (4))] [.int ((L_0letMinutesPass_4 m T j4).1)] lk_0_45 dc_X0_letMinutesPass_71 rfl rfl (s_3atT2 _ j4 4 (by omega) (by omega)) (by first | rfl | (simp only [nI_add, pk_mul]; first | done | rfl)) rfl ?_
      refine AR.run g_X0_letMinutesPass_74_6 4 [some (.ref 4097), some (.int (m)), some (.int (((L_0letMinutesPass_4 m T j4).1) + (((((L_0letMinutesPass_4 m T j4).2) 2) (j4 * 5 + 4)) - ((((L_0letMinutesPass_4 m T j4).2) 2) (j4 * 5 + 4))))), some (.int ((nI (j4)) + (nI (1)))), some (.int ((((L_0letMinutesPass_4 m T j4).2) 2) (j4 * 5 + 4))), none] [] _ [] rfl trivial ?_
      refine AR.drop (L' := [some (.ref 4097), some (.int (m)), some (.int (((L_0letMinutesPass_4 m T j4).1) + (((((L_0letMinutesPass_4 m T j4).2) 2) (j4 * 5 + 4)) - ((((L_0letMinutesPass_4 m T j4).2) 2) (j4 * 5 + 4))))), some (.int ((nI (j4)) + (nI (1)))), none, none]) ⟨rfl, rfl, rfl, rfl, trivial⟩ ?_
      have e3 : L_0letMinutesPass_4 m T (j4 + 1) = (((L_0letMinutesPass_4 m T j4).1) + (((((L_0letMinutesPass_4 m T j4).2) 2) (j4 * 5 + 4)) - ((((L_0letMinutesPass_4 m T j4).2) 2) (j4 * 5 + 4))), (L_0letMinutesPass_4 m T j4).2) := by rw [L_0letMinutesPass_4, B_0letMinutesPass_4, if_neg c29_2]
      exact AR.cast (L' := [some (.ref 4097), some (.int (m)), some (.int ((L_0letMinutesPass_4 m T (j4 + 1)).1)), some (.int (nI (j4 + 1))), none, none]) (by rw [e3, nI_add]) rfl (by rw [e3]) (ih4 (by first | trivial | omega))
    · refine AR.run g_X0_letMinutesPass_32_4 38 [some (.ref 4097), some (.int (m)), some (.int ((L_0letMinutesPass_4 m T j4).1)), some (.int (nI (j4))), some (.int ((((L_0letMinutesPass_4 m T j4).2) 2) (j4 * 5 + 4))), none] [.int (nI (2)), .int (nI (j4)), .ref 4104] _ [] rfl trivial ?_
      refine AR.callV1 (4104) [.int (nI (j4)), .int (nI (2))] [] lk_0_45 dc_X0_letMinutesPass_38 rfl rfl (s_3atT2 _ j4 2 (by omega) (by omega)) (by first | rfl | (simp only [nI_add, pk_mul]; first | done | rfl)) rfl ?_
      refine AR.run g_X0_letMinutesPass_41_1 43 [some (.ref 4097), some (.int (m)), some (.int ((L_0letMinutesPass_4 m T j4).1)), some (.int (nI (j4))), some (.int ((((L_0letMinutesPass_4 m T j4).2) 2) (j4 * 5 + 4))), some (.int ((((L_0letMinutesPass_4 m T j4).2) 2) (j4 * 5 + 2)))] [] _ [] rfl trivial ?_
      have hfr := isFree_0 (by assumption)
      obtain ⟨hx9, hy9⟩ := QI_get (by omega) (hA_0.2.2.2.2.2 _ (by omega)) hfr
      refine AR.cast (L' := [some (.ref 4097), some (.int (m)), some (.int ((L_0letMinutesPass_4 m T j4).1)), some (.int (nI (j4))), some (.int ((((L_0letMinutesPass_4 m T j4).2) 2) (j4 * 5 + 4))), some (.int (nI (((((L_0letMinutesPass_4 m T j4).2) 2) (j4 * 5 + 2)).toNatClampNeg)))]) (by rw [← hx9]) rfl rfl ?_
      refine AR.run g_X0_letMinutesPass_43_8 56 [some (.ref 4097), some (.int (m)), some (.int ((L_0letMinutesPass_4 m T j4).1)), some (.int (nI (j4))), some (.int ((((L_0letMinutesPass_4 m T j4).2) 2) (j4 * 5 + 4))), some (.int (nI (((((L_0letMinutesPass_4 m T j4).2) 2) (j4 * 5 + 2)).toNatClampNeg)))] [.int (nI (6)), .int (nI (((((L_0letMinutesPass_4 m T j4).2) 2) (j4 * 5 + 2)).toNatClampNeg)), .ref 4098, .int (m), .int (nI (((((L_0letMinutesPass_4 m T j4).2) 2) (j4 * 5 + 2)).toNatClampNeg)), .int (nI (j4)), .ref 4097] _ [] rfl trivial ?_
      refine AR.callV1 (4098) [.int (nI (((((L_0letMinutesPass_4 m T j4).2) 2) (j4 * 5 + 2)).toNatClampNeg)), .int (nI (6))] [.int (m), .int (nI (((((L_0letMinutesPass_4 m T j4).2) 2) (j4 * 5 + 2)).toNatClampNeg)), .int (nI (j4)), .ref 4097] lk_0_45 dc_X0_letMinutesPass_56 rfl rfl (s_3atT0 _ (((((L_0letMinutesPass_4 m T j4).2) 2) (j4 * 5 + 2)).toNatClampNeg) 6 (by omega) (by omega)) (by first | rfl | (simp only [nI_add, pk_mul]; first | done | rfl)) rfl ?_
      refine AR.run g_X0_letMinutesPass_59_1 60 [some (.ref 4097), some (.int (m)), some (.int ((L_0letMinutesPass_4 m T j4).1)), some (.int (nI (j4))), some (.int ((((L_0letMinutesPass_4 m T j4).2) 2) (j4 * 5 + 4))), some (.int (nI (((((L_0letMinutesPass_4 m T j4).2) 2) (j4 * 5 + 2)).toNatClampNeg)))] [.int (m - ((((L_0letMinutesPass_4 m T j4).2) 0) ((((((L_0letMinutesPass_4 m T j4).2) 2) (j4 * 5 + 2)).toNatClampNeg) * 7 + 6))), .int (nI (((((L_0letMinutesPass_4 m T j4).2) 2) (j4 * 5 + 2)).toNatClampNeg)), .int (nI (j4)), .ref 4097] _ [] rfl trivial ?_
      refine AR.callV1 (4097) [.int (nI (j4)), .int (nI (((((L_0letMinutesPass_4 m T j4).2) 2) (j4 * 5 + 2)).toNatClampNeg)), .int (m - ((((L_0letMinutesPass_4 m T j4).2) 0) ((((((L_0letMinutesPass_4 m T j4).2) 2) (j4 * 5 + 2)).toNatClampNeg) * 7 + 6)))] [] lk_0_114 dc_X0_letMinutesPass_60 rfl rfl (s_0workFor _ j4 (((((L_0letMinutesPass_4 m T j4).2) 2) (j4 * 5 + 2)).toNatClampNeg) (m - ((((L_0letMinutesPass_4 m T j4).2) 0) ((((((L_0letMinutesPass_4 m T j4).2) 2) (j4 * 5 + 2)).toNatClampNeg) * 7 + 6))) (by omega) (by omega) (by first | assumption | exact hA_0.2.2.2.2.1 _ (by omega))) (by first | rfl | (simp only [nI_add, pk_mul]; first | done | rfl)) rfl ?_
      refine AR.run g_X0_letMinutesPass_63_6 71 [some (.ref 4097), some (.int (m)), some (.int ((L_0letMinutesPass_4 m T j4).1)), some (.int (nI (j4))), some (.int ((((L_0letMinutesPass_4 m T j4).2) 2) (j4 * 5 + 4))), some (.int (nI (((((L_0letMinutesPass_4 m T j4).2) 2) (j4 * 5 + 2)).toNatClampNeg)))] [.int (nI (4)), .int (nI (j4)), .ref 4104, .int ((L_0letMinutesPass_4 m T j4).1)] _ [] rfl trivial ?_
      refine AR.callV1 (4104) [.int (nI (j4)), .int (nI (4))] [.int ((L_0letMinutesPass_4 m T j4).1)] lk_0_45 dc_X0_letMinutesPass_71 rfl rfl (s_3atT2 _ j4 4 (by omega) (by omega)) (by first | rfl | (simp only [nI_add, pk_mul]; first | done | rfl)) rfl ?_
      refine AR.run g_X0_letMinutesPass_74_6 4 [some (.ref 4097), some (.int (m)), some (.int (((L_0letMinutesPass_4 m T j4).1) + ((((F_0workFor_T j4 (((((L_0letMinutesPass_4 m T j4).2) 2) (j4 * 5 + 2)).toNatClampNeg) (m - ((((L_0letMinutesPass_4 m T j4).2) 0) ((((((L_0letMinutesPass_4 m T j4).2) 2) (j4 * 5 + 2)).toNatClampNeg) * 7 + 6))) ((L_0letMinutesPass_4 m T j4).2)) 2) (j4 * 5 + 4)) - ((((L_0letMinutesPass_4 m T j4).2) 2) (j4 * 5 + 4))))), some (.int ((nI (j4)) + (nI (1)))), some (.int ((((L_0letMinutesPass_4 m T j4).2) 2) (j4 * 5 + 4))), some (.int (nI (((((L_0letMinutesPass_4 m T j4).2) 2) (j4 * 5 + 2)).toNatClampNeg)))] [] _ [] rfl trivial ?_
      refine AR.drop (L' := [some (.ref 4097), some (.int (m)), some (.int (((L_0letMinutesPass_4 m T j4).1) + ((((F_0workFor_T j4 (((((L_0letMinutesPass_4 m T j4).2) 2) (j4 * 5 + 2)).toNatClampNeg) (m - ((((L_0letMinutesPass_4 m T j4).2) 0) ((((((L_0letMinutesPass_4 m T j4).2) 2) (j4 * 5 + 2)).toNatClampNeg) * 7 + 6))) ((L_0letMinutesPass_4 m T j4).2)) 2) (j4 * 5 + 4)) - ((((L_0letMinutesPass_4 m T j4).2) 2) (j4 * 5 + 4))))), some (.int ((nI (j4)) + (nI (1)))), none, none]) ⟨rfl, rfl, rfl, rfl, trivial⟩ ?_
      have e4 : L_0letMinutesPass_4 m T (j4 + 1) = (((L_0letMinutesPass_4 m T j4).1) + ((((F_0workFor_T j4 (((((L_0letMinutesPass_4 m T j4).2) 2) (j4 * 5 + 2)).toNatClampNeg) (m - ((((L_0letMinutesPass_4 m T j4).2) 0) ((((((L_0letMinutesPass_4 m T j4).2) 2) (j4 * 5 + 2)).toNatClampNeg) * 7 + 6))) ((L_0letMinutesPass_4 m T j4).2)) 2) (j4 * 5 + 4)) - ((((L_0letMinutesPass_4 m T j4).2) 2) (j4 * 5 + 4))), F_0workFor_T j4 (((((L_0letMinutesPass_4 m T j4).2) 2) (j4 * 5 + 2)).toNatClampNeg) (m - ((((L_0letMinutesPass_4 m T j4).2) 0) ((((((L_0letMinutesPass_4 m T j4).2) 2) (j4 * 5 + 2)).toNatClampNeg) * 7 + 6))) ((L_0letMinutesPass_4 m T j4).2)) := by rw [L_0letMinutesPass_4, B_0letMinutesPass_4, if_pos c29_2]
      exact AR.cast (L' := [some (.ref 4097), some (.int (m)), some (.int ((L_0letMinutesPass_4 m T (j4 + 1)).1)), some (.int (nI (j4 + 1))), none, none]) (by rw [e4, nI_add]) rfl (by rw [e4]) (ih4 (by first | trivial | omega))
  · have hA_4 : TI ((L_0letMinutesPass_4 m T nc).2) nv nc nr ne := TI_lp4 hT h4 nc (by omega)
    refine AR.run g_X0_letMinutesPass_4_3 7 [some (.ref 4097), some (.int (m)), some (.int ((L_0letMinutesPass_4 m T nc).1)), some (.int (nI (nc))), none, none] [.int (nI (1)), .ref 4097, .int (nI (nc))] _ [] rfl trivial ?_
    refine AR.callV1 (4097) [.int (nI (1))] [.int (nI (nc))] lk_0_56 dc_X0_letMinutesPass_7 rfl rfl (s_0number _ 1 (by omega)) (by first | rfl | (simp only [nI_add, pk_mul]; first | done | rfl)) rfl ?_
    refine AR.top hA_4.2.1.1 ?_
    refine AR.ge2N (tgt := 85) (a := nc) (b := nc) dc_X0_letMinutesPass_10 (by decide) (by first | rfl | (simp only [nI_add, pk_mul]; first | done | rfl)) (by first | rfl | (simp only [nI_add, pk_mul]; first | done | rfl)) (by omega) (by omega) (fun c10_5 => ?_) (fun c10_5 => absurd c10_5 (by omega))
    refine AR.run g_X0_letMinutesPass_85_2 87 [some (.ref 4097), some (.int (m)), some (.int ((L_0letMinutesPass_4 m T nc).1)), some (.int (nI (0))), none, none] [] _ [] rfl trivial ?_
    refine AR.cast (L' := [some (.ref 4097), some (.int (m)), some (.int ((L_0letMinutesPass_4 m T nc).1)), some (.int (nI (0))), none, none]) (by first | rfl | (rw [L_0letMinutesPass_87])) rfl (by first | rfl | (rw [L_0letMinutesPass_87])) (AR.loopN nr (fun j87 => [some (.ref 4097), some (.int (m)), some (.int ((L_0letMinutesPass_4 m T nc).1)), some (.int (nI (j87))), none, none]) (fun j87 => (hp o0 (ar (L_0letMinutesPass_87 m nc T j87) K os sc) t0 p0 m0 u0 l0)) (fun j87 => True) (fun j87 hj87 hI87 ih87 => ?_) (fun hI87 => ?_) 0 (by omega) (by first | trivial | omega))
    · have hB_5 : TI (L_0letMinutesPass_87 m nc T j87) nv nc nr ne := TI_lp87 hT h4 j87
      refine AR.run g_X0_letMinutesPass_87_3 90 [some (.ref 4097), some (.int (m)), some (.int ((L_0letMinutesPass_4 m T nc).1)), some (.int (nI (j87))), none, none] [.int (nI (2)), .ref 4097, .int (nI (j87))] _ [] rfl trivial ?_
      refine AR.callV1 (4097) [.int (nI (2))] [.int (nI (j87))] lk_0_56 dc_X0_letMinutesPass_90 rfl rfl (s_0number _ 2 (by omega)) (by first | rfl | (simp only [nI_add, pk_mul]; first | done | rfl)) rfl ?_
      refine AR.top hB_5.2.2.1.1 ?_
      refine AR.ge2N (tgt := 126) (a := j87) (b := nr) dc_X0_letMinutesPass_93 (by decide) (by first | rfl | (simp only [nI_add, pk_mul]; first | done | rfl)) (by first | rfl | (simp only [nI_add, pk_mul]; first | done | rfl)) (by omega) (by omega) (fun c93_6 => absurd c93_6 (by omega)) (fun c93_6 => ?_)
      refine AR.run g_X0_letMinutesPass_96_9 109 [some (.ref 4097), some (.int (m)), some (.int ((L_0letMinutesPass_4 m T nc).1)), some (.int (nI (j87))), none, none] [.int (nI (1)), .int (nI (j87)), .ref 4107, .int (nI (0)), .int (nI (1)), .int (nI (j87)), .ref 4107] _ [] rfl trivial ?_
      refine AR.callV1 (4107) [.int (nI (j87)), .int (nI (1))] [.int (nI (0)), .int (nI (1)), .int (nI (j87)), .ref 4107] lk_0_45 dc_X0_letMinutesPass_109 rfl rfl (s_3atT3 _ j87 1 (by omega) (by omega)) (by first | rfl | (simp only [nI_add, pk_mul]; first | done | rfl)) rfl ?_
      refine AR.run g_X0_letMinutesPass_112_3 117 [some (.ref 4097), some (.int (m)), some (.int ((L_0letMinutesPass_4 m T nc).1)), some (.int (nI (j87))), none, none] [.int (if (nI (0)) < ((((L_0letMinutesPass_87 m nc T j87) 3) (j87 * 4 + 1)) - m) then ((((L_0letMinutesPass_87 m nc T j87) 3) (j87 * 4 + 1)) - m) else (nI (0))), .int (nI (1)), .int (nI (j87)), .ref 4107] _ [] rfl trivial ?_
      refine AR.callV0 (4107) [.int (nI (j87)), .int (nI (1)), .int (if (nI (0)) < ((((L_0letMinutesPass_87 m nc T j87) 3) (j87 * 4 + 1)) - m) then ((((L_0letMinutesPass_87 m nc T j87) 3) (j87 * 4 + 1)) - m) else (nI (0)))] [] lk_0_42 dc_X0_letMinutesPass_117 rfl rfl (s_3putT3 _ j87 1 (if (nI (0)) < ((((L_0letMinutesPass_87 m nc T j87) 3) (j87 * 4 + 1)) - m) then ((((L_0letMinutesPass_87 m nc T j87) 3) (j87 * 4 + 1)) - m) else (nI (0))) (by omega) (by omega)) (by first | rfl | (simp only [nI_add, pk_mul]; first | done | rfl)) rfl ?_
      refine AR.cast (h1 := (hp o0 (ar (tu (L_0letMinutesPass_87 m nc T j87) 3 (upd ((L_0letMinutesPass_87 m nc T j87) 3) ((j87 * 4) + 1) (if (nI (0)) < ((((L_0letMinutesPass_87 m nc T j87) 3) (j87 * 4 + 1)) - m) then ((((L_0letMinutesPass_87 m nc T j87) 3) (j87 * 4 + 1)) - m) else (nI (0))))) K os sc) t0 p0 m0 u0 l0)) rfl rfl rfl ?_
      refine AR.run g_X0_letMinutesPass_120_2 87 [some (.ref 4097), some (.int (m)), some (.int ((L_0letMinutesPass_4 m T nc).1)), some (.int ((nI (j87)) + (nI (1)))), none, none] [] _ [] rfl trivial ?_
      have e7 : L_0letMinutesPass_87 m nc T (j87 + 1) = (tu (L_0letMinutesPass_87 m nc T j87) 3 (upd ((L_0letMinutesPass_87 m nc T j87) 3) ((j87 * 4) + 1) (if (nI (0)) < ((((L_0letMinutesPass_87 m nc T j87) 3) (j87 * 4 + 1)) - m) then ((((L_0letMinutesPass_87 m nc T j87) 3) (j87 * 4 + 1)) - m) else (nI (0))))) := by rw [L_0letMinutesPass_87, B_0letMinutesPass_87]
      exact AR.cast (L' := [some (.ref 4097), some (.int (m)), some (.int ((L_0letMinutesPass_4 m T nc).1)), some (.int (nI (j87 + 1))), none, none]) (by first | rfl | (rw [nI_add]; done) | (rw [nI_add]; rfl)) rfl (by rw [e7]) (ih87 (by first | trivial | omega))
    · have hB_7 : TI (L_0letMinutesPass_87 m nc T nr) nv nc nr ne := TI_lp87 hT h4 nr
      refine AR.run g_X0_letMinutesPass_87_3 90 [some (.ref 4097), some (.int (m)), some (.int ((L_0letMinutesPass_4 m T nc).1)), some (.int (nI (nr))), none, none] [.int (nI (2)), .ref 4097, .int (nI (nr))] _ [] rfl trivial ?_
      refine AR.callV1 (4097) [.int (nI (2))] [.int (nI (nr))] lk_0_56 dc_X0_letMinutesPass_90 rfl rfl (s_0number _ 2 (by omega)) (by first | rfl | (simp only [nI_add, pk_mul]; first | done | rfl)) rfl ?_
      refine AR.top hB_7.2.2.1.1 ?_
      refine AR.ge2N (tgt := 126) (a := nr) (b := nr) dc_X0_letMinutesPass_93 (by decide) (by first | rfl | (simp only [nI_add, pk_mul]; first | done | rfl)) (by first | rfl | (simp only [nI_add, pk_mul]; first | done | rfl)) (by omega) (by omega) (fun c93_8 => ?_) (fun c93_8 => absurd c93_8 (by omega))
      refine AR.run g_X0_letMinutesPass_126_2 128 [some (.ref 4097), some (.int (m)), some (.int ((L_0letMinutesPass_4 m T nc).1)), some (.int (nI (0))), none, none] [] _ [] rfl trivial ?_
      refine AR.cast (L' := [some (.ref 4097), some (.int (m)), some (.int ((L_0letMinutesPass_4 m T nc).1)), some (.int (nI (0))), none, none]) (by first | rfl | (rw [L_0letMinutesPass_128])) rfl (by first | rfl | (rw [L_0letMinutesPass_128])) (AR.loopN nv (fun j128 => [some (.ref 4097), some (.int (m)), some (.int ((L_0letMinutesPass_4 m T nc).1)), some (.int (nI (j128))), none, none]) (fun j128 => (hp o0 (ar (L_0letMinutesPass_128 m nc nr T j128) K os sc) t0 p0 m0 u0 l0)) (fun j128 => True) (fun j128 hj128 hI128 ih128 => ?_) (fun hI128 => ?_) 0 (by omega) (by first | trivial | omega))
      · have hC_8 : TI (L_0letMinutesPass_128 m nc nr T j128) nv nc nr ne := TI_lp128 hT h4 j128
        refine AR.run g_X0_letMinutesPass_128_3 131 [some (.ref 4097), some (.int (m)), some (.int ((L_0letMinutesPass_4 m T nc).1)), some (.int (nI (j128))), none, none] [.int (nI (0)), .ref 4097, .int (nI (j128))] _ [] rfl trivial ?_
        refine AR.callV1 (4097) [.int (nI (0))] [.int (nI (j128))] lk_0_56 dc_X0_letMinutesPass_131 rfl rfl (s_0number _ 0 (by omega)) (by first | rfl | (simp only [nI_add, pk_mul]; first | done | rfl)) rfl ?_
        refine AR.top hC_8.1.1 ?_
        refine AR.ge2N (tgt := 169) (a := j128) (b := nv) dc_X0_letMinutesPass_134 (by decide) (by first | rfl | (simp only [nI_add, pk_mul]; first | done | rfl)) (by first | rfl | (simp only [nI_add, pk_mul]; first | done | rfl)) (by omega) (by omega) (fun c134_9 => absurd c134_9 (by omega)) (fun c134_9 => ?_)
        refine AR.run g_X0_letMinutesPass_137_9 152 [some (.ref 4097), some (.int (m)), some (.int ((L_0letMinutesPass_4 m T nc).1)), some (.int (nI (j128))), none, none] [.int (nI (6)), .int (nI (j128)), .ref 4098, .int (nI (0)), .int (nI (6)), .int (nI (j128)), .ref 4098] _ [] rfl trivial ?_
        refine AR.callV1 (4098) [.int (nI (j128)), .int (nI (6))] [.int (nI (0)), .int (nI (6)), .int (nI (j128)), .ref 4098] lk_0_45 dc_X0_letMinutesPass_152 rfl rfl (s_3atT0 _ j128 6 (by omega) (by omega)) (by first | rfl | (simp only [nI_add, pk_mul]; first | done | rfl)) rfl ?_
        refine AR.run g_X0_letMinutesPass_155_3 160 [some (.ref 4097), some (.int (m)), some (.int ((L_0letMinutesPass_4 m T nc).1)), some (.int (nI (j128))), none, none] [.int (if (nI (0)) < ((((L_0letMinutesPass_128 m nc nr T j128) 0) (j128 * 7 + 6)) - m) then ((((L_0letMinutesPass_128 m nc nr T j128) 0) (j128 * 7 + 6)) - m) else (nI (0))), .int (nI (6)), .int (nI (j128)), .ref 4098] _ [] rfl trivial ?_
        refine AR.callV0 (4098) [.int (nI (j128)), .int (nI (6)), .int (if (nI (0)) < ((((L_0letMinutesPass_128 m nc nr T j128) 0) (j128 * 7 + 6)) - m) then ((((L_0letMinutesPass_128 m nc nr T j128) 0) (j128 * 7 + 6)) - m) else (nI (0)))] [] lk_0_42 dc_X0_letMinutesPass_160 rfl rfl (s_3putT0 _ j128 6 (if (nI (0)) < ((((L_0letMinutesPass_128 m nc nr T j128) 0) (j128 * 7 + 6)) - m) then ((((L_0letMinutesPass_128 m nc nr T j128) 0) (j128 * 7 + 6)) - m) else (nI (0))) (by omega) (by omega)) (by first | rfl | (simp only [nI_add, pk_mul]; first | done | rfl)) rfl ?_
        refine AR.cast (h1 := (hp o0 (ar (tu (L_0letMinutesPass_128 m nc nr T j128) 0 (upd ((L_0letMinutesPass_128 m nc nr T j128) 0) ((j128 * 7) + 6) (if (nI (0)) < ((((L_0letMinutesPass_128 m nc nr T j128) 0) (j128 * 7 + 6)) - m) then ((((L_0letMinutesPass_128 m nc nr T j128) 0) (j128 * 7 + 6)) - m) else (nI (0))))) K os sc) t0 p0 m0 u0 l0)) rfl rfl rfl ?_
        refine AR.run g_X0_letMinutesPass_163_2 128 [some (.ref 4097), some (.int (m)), some (.int ((L_0letMinutesPass_4 m T nc).1)), some (.int ((nI (j128)) + (nI (1)))), none, none] [] _ [] rfl trivial ?_
        have e10 : L_0letMinutesPass_128 m nc nr T (j128 + 1) = (tu (L_0letMinutesPass_128 m nc nr T j128) 0 (upd ((L_0letMinutesPass_128 m nc nr T j128) 0) ((j128 * 7) + 6) (if (nI (0)) < ((((L_0letMinutesPass_128 m nc nr T j128) 0) (j128 * 7 + 6)) - m) then ((((L_0letMinutesPass_128 m nc nr T j128) 0) (j128 * 7 + 6)) - m) else (nI (0))))) := by rw [L_0letMinutesPass_128, B_0letMinutesPass_128]
        exact AR.cast (L' := [some (.ref 4097), some (.int (m)), some (.int ((L_0letMinutesPass_4 m T nc).1)), some (.int (nI (j128 + 1))), none, none]) (by first | rfl | (rw [nI_add]; done) | (rw [nI_add]; rfl)) rfl (by rw [e10]) (ih128 (by first | trivial | omega))
      · have hC_10 : TI (L_0letMinutesPass_128 m nc nr T nv) nv nc nr ne := TI_lp128 hT h4 nv
        refine AR.run g_X0_letMinutesPass_128_3 131 [some (.ref 4097), some (.int (m)), some (.int ((L_0letMinutesPass_4 m T nc).1)), some (.int (nI (nv))), none, none] [.int (nI (0)), .ref 4097, .int (nI (nv))] _ [] rfl trivial ?_
        refine AR.callV1 (4097) [.int (nI (0))] [.int (nI (nv))] lk_0_56 dc_X0_letMinutesPass_131 rfl rfl (s_0number _ 0 (by omega)) (by first | rfl | (simp only [nI_add, pk_mul]; first | done | rfl)) rfl ?_
        refine AR.top hC_10.1.1 ?_
        refine AR.ge2N (tgt := 169) (a := nv) (b := nv) dc_X0_letMinutesPass_134 (by decide) (by first | rfl | (simp only [nI_add, pk_mul]; first | done | rfl)) (by first | rfl | (simp only [nI_add, pk_mul]; first | done | rfl)) (by omega) (by omega) (fun c134_11 => ?_) (fun c134_11 => absurd c134_11 (by omega))
        refine AR.run g_X0_letMinutesPass_169_5 176 [some (.ref 4097), some (.int (m)), some (.int ((L_0letMinutesPass_4 m T nc).1)), some (.int (nI (nv))), none, none] [.int (m), .int (nI (3)), .int (nI (0)), .ref 4113] _ [] rfl trivial ?_
        refine AR.callV0 (4113) [.int (nI (0)), .int (nI (3)), .int (m)] [] lk_0_60 dc_X0_letMinutesPass_176 rfl rfl (s_3addT5 _ 3 m (by omega)) (by first | rfl | (simp only [nI_add, pk_mul]; first | done | rfl)) rfl ?_
        refine AR.cast (h1 := (hp o0 (ar (tu (L_0letMinutesPass_128 m nc nr T nv) 5 (upd ((L_0letMinutesPass_128 m nc nr T nv) 5) 3 ((((L_0letMinutesPass_128 m nc nr T nv) 5) 3) + m))) K os sc) t0 p0 m0 u0 l0)) rfl rfl rfl ?_
        refine AR.run g_X0_letMinutesPass_179_1 180 [some (.ref 4097), some (.int (m)), some (.int ((L_0letMinutesPass_4 m T nc).1)), some (.int (nI (nv))), none, none] [.int ((L_0letMinutesPass_4 m T nc).1)] _ [] rfl trivial ?_
        have e12_0 : F_0letMinutesPass m nc T = ((L_0letMinutesPass_4 m T nc).1) := by rw [F_0letMinutesPass]
        have e12_1 : F_0letMinutesPass_T m nv nc nr T = (tu (L_0letMinutesPass_128 m nc nr T nv) 5 (upd ((L_0letMinutesPass_128 m nc nr T nv) 5) 3 ((((L_0letMinutesPass_128 m nc nr T nv) 5) 3) + m))) := by rw [F_0letMinutesPass_T]
        exact AR.retI dc_X0_letMinutesPass_180 rfl e12_0.symm (by rw [e12_1])
def F_0findFaulty (v : Nat) (k : Nat) (T : Nat → Nat → Int32) : Int32 := (L_0leavesInCondition_5 v (nI (2)) (tu (tu T 1 (upd (T 1) ((v * 120) + ((k * 3) + 0)) (nI (2)))) 5 (upd (T 5) 6 (((T 5) 6) + (nI (1))))) (lt (tu (tu T 1 (upd (T 1) ((v * 120) + ((k * 3) + 0)) (nI (2)))) 5 (upd (T 5) 6 (((T 5) 6) + (nI (1))))) v))
def F_0findFaulty_T (v : Nat) (k : Nat) (T : Nat → Nat → Int32) : Nat → Nat → Int32 := (tu (tu T 1 (upd (T 1) ((v * 120) + ((k * 3) + 0)) (nI (2)))) 5 (upd (T 5) 6 (((T 5) 6) + (nI (1)))))
theorem g_X0_findFaulty_0_9 : ab_oks M_X0_findFaulty [(0, .aload_n 0, 1, 0, 0, 0, .null), (1, .getfield 20, 3, 0, 1, 154, .null), (4, .iload_n 1, 1, 1, 0, 0, .null), (5, .iload_n 2, 1, 2, 0, 0, .null), (6, .iconst 3, 1, 0, 0, 0, .int (nI (3))), (7, .imul, 1, 0, 0, 0, .null), (8, .iconst 0, 1, 0, 0, 0, .int (nI (0))), (9, .iadd, 1, 0, 0, 0, .null), (10, .iconst 2, 1, 0, 0, 0, .int (nI (2)))] = true := by decide +kernel
theorem dc_X0_findFaulty_11 : decode (AM.bytes M_X0_findFaulty) 11 = .ok (.invokevirtual 42, 3) := by decide +kernel
theorem g_X0_findFaulty_14_5 : ab_oks M_X0_findFaulty [(14, .aload_n 0, 1, 0, 0, 0, .null), (15, .getfield 32, 3, 0, 5, 158, .null), (18, .iconst 0, 1, 0, 0, 0, .int (nI (0))), (19, .bipush 6, 2, 0, 0, 0, .int (nI (6))), (21, .iconst 1, 1, 0, 0, 0, .int (nI (1)))] = true := by decide +kernel
theorem dc_X0_findFaulty_22 : decode (AM.bytes M_X0_findFaulty) 22 = .ok (.invokevirtual 60, 3) := by decide +kernel
theorem g_X0_findFaulty_25_3 : ab_oks M_X0_findFaulty [(25, .aload_n 0, 1, 0, 0, 0, .null), (26, .iload_n 1, 1, 1, 0, 0, .null), (27, .iconst 2, 1, 0, 0, 0, .int (nI (2)))] = true := by decide +kernel
theorem dc_X0_findFaulty_28 : decode (AM.bytes M_X0_findFaulty) 28 = .ok (.invokevirtual 63, 3) := by decide +kernel
theorem dc_X0_findFaulty_31 : decode (AM.bytes M_X0_findFaulty) 31 = .ok (.ireturn, 1) := by decide +kernel
set_option maxRecDepth 100000 in
set_option maxHeartbeats 4000000 in
theorem s_0findFaulty {E : AE} (d : Nat) (v : Nat) (k : Nat)  {o0 t0 p0 m0 u0 l0 : List AC} {T K : Nat → Nat → Int32} {os sc : Int32} (hv : v < 12) (hk : k < 40) (hH : HLv T v) : CT E M_X0_findFaulty (d + 2) [.ref 4097, .int (nI (v)), .int (nI (k))] (hp o0 (ar T K os sc) t0 p0 m0 u0 l0) (.inl (some (.int (F_0findFaulty v k T)))) (hp o0 (ar (F_0findFaulty_T v k T) K os sc) t0 p0 m0 u0 l0) 0 0 := by
  refine CT.of (L := [some (.ref 4097), some (.int (nI (v))), some (.int (nI (k)))]) rfl rfl ?_
  refine AR.run g_X0_findFaulty_0_9 11 [some (.ref 4097), some (.int (nI (v))), some (.int (nI (k)))] [.int (nI (2)), .int (((nI (k)) * (nI (3))) + (nI (0))), .int (nI (v)), .ref 4101] _ [] rfl trivial ?_
  refine AR.callV0 (4101) [.int (nI (v)), .int (nI (((k * 3) + 0))), .int (nI (2))] [] lk_0_42 dc_X0_findFaulty_11 rfl rfl (s_3putT1 _ v ((k * 3) + 0) (nI (2)) (by omega) (by omega)) (by first | rfl | (simp only [nI_add, pk_mul]; first | done | rfl)) rfl ?_
  refine AR.cast (h1 := (hp o0 (ar (tu T 1 (upd (T 1) ((v * 120) + ((k * 3) + 0)) (nI (2)))) K os sc) t0 p0 m0 u0 l0)) rfl rfl rfl ?_
  refine AR.run g_X0_findFaulty_14_5 22 [some (.ref 4097), some (.int (nI (v))), some (.int (nI (k)))] [.int (nI (1)), .int (nI (6)), .int (nI (0)), .ref 4113] _ [] rfl trivial ?_
  refine AR.callV0 (4113) [.int (nI (0)), .int (nI (6)), .int (nI (1))] [] lk_0_60 dc_X0_findFaulty_22 rfl rfl (s_3addT5 _ 6 (nI (1)) (by omega)) (by first | rfl | (simp only [nI_add, pk_mul]; first | done | rfl)) rfl ?_
  refine AR.cast (h1 := (hp o0 (ar (tu (tu T 1 (upd (T 1) ((v * 120) + ((k * 3) + 0)) (nI (2)))) 5 (upd (T 5) 6 (((T 5) 6) + (nI (1))))) K os sc) t0 p0 m0 u0 l0)) rfl rfl rfl ?_
  obtain ⟨hz1, hw1⟩ := (HLv_of (T := T) (T' := tu (tu T 1 (upd (T 1) ((v * 120) + ((k * 3) + 0)) (nI (2)))) 5 (upd (T 5) 6 (((T 5) 6) + (nI (1))))) (v := v) (v' := v) rfl hH : HLv (tu (tu T 1 (upd (T 1) ((v * 120) + ((k * 3) + 0)) (nI (2)))) 5 (upd (T 5) 6 (((T 5) 6) + (nI (1))))) v)
  refine AR.run g_X0_findFaulty_25_3 28 [some (.ref 4097), some (.int (nI (v))), some (.int (nI (k)))] [.int (nI (2)), .int (nI (v)), .ref 4097] _ [] rfl trivial ?_
  refine AR.callV1 (4097) [.int (nI (v)), .int (nI (2))] [] lk_0_63 dc_X0_findFaulty_28 rfl rfl (s_0leavesInCondition _ v (nI (2)) (by omega) (by first | assumption | exact (hLT v (by omega)).1) (by first | assumption | exact (hLT v (by omega)).2)) (by first | rfl | (simp only [nI_add, pk_mul]; first | done | rfl)) rfl ?_
  have e2_0 : F_0findFaulty v k T = (L_0leavesInCondition_5 v (nI (2)) (tu (tu T 1 (upd (T 1) ((v * 120) + ((k * 3) + 0)) (nI (2)))) 5 (upd (T 5) 6 (((T 5) 6) + (nI (1))))) (lt (tu (tu T 1 (upd (T 1) ((v * 120) + ((k * 3) + 0)) (nI (2)))) 5 (upd (T 5) 6 (((T 5) 6) + (nI (1))))) v)) := by rw [F_0findFaulty]
  have e2_1 : F_0findFaulty_T v k T = (tu (tu T 1 (upd (T 1) ((v * 120) + ((k * 3) + 0)) (nI (2)))) 5 (upd (T 5) 6 (((T 5) 6) + (nI (1))))) := by rw [F_0findFaulty_T]
  exact AR.retI dc_X0_findFaulty_31 rfl e2_0.symm (by rw [e2_1])
def B_0barLeaves_3 (v : Nat) (a : Nat) (y : Int32) (j3 : Nat) (y3_ar0 : Nat → Nat → Int32) : (Nat → Nat → Int32) := (tu y3_ar0 1 (upd (y3_ar0 1) ((v * 120) + (((a + j3) * 3) + 2)) y))
def L_0barLeaves_3 (v : Nat) (a : Nat) (y : Int32) (T : Nat → Nat → Int32) : Nat → (Nat → Nat → Int32)
  | 0 => T
  | j + 1 => B_0barLeaves_3 v a y j (L_0barLeaves_3 v a y T  j)
def F_0barLeaves_T (v : Nat) (a : Nat) (b : Nat) (y : Int32) (T : Nat → Nat → Int32) : Nat → Nat → Int32 := (L_0barLeaves_3 v a y T (b + 1 - a))
theorem g_X0_barLeaves_0_2 : ab_oks M_X0_barLeaves [(0, .iload_n 2, 1, 2, 0, 0, .null), (1, .istore 5, 2, 5, 0, 0, .null)] = true := by decide +kernel
theorem g_X0_barLeaves_3_2 : ab_oks M_X0_barLeaves [(3, .iload 5, 2, 5, 0, 0, .null), (5, .iload_n 3, 1, 3, 0, 0, .null)] = true := by decide +kernel
theorem dc_X0_barLeaves_6 : decode (AM.bytes M_X0_barLeaves) 6 = .ok (.if_icmp .gt 32, 3) := by decide +kernel
theorem g_X0_barLeaves_9_2 : ab_oks M_X0_barLeaves [(9, .iload 5, 2, 5, 0, 0, .null), (11, .bipush 40, 2, 0, 0, 0, .int (nI (40)))] = true := by decide +kernel
theorem dc_X0_barLeaves_13 : decode (AM.bytes M_X0_barLeaves) 13 = .ok (.if_icmp .ge 25, 3) := by decide +kernel
theorem g_X0_barLeaves_16_9 : ab_oks M_X0_barLeaves [(16, .aload_n 0, 1, 0, 0, 0, .null), (17, .getfield 20, 3, 0, 1, 154, .null), (20, .iload_n 1, 1, 1, 0, 0, .null), (21, .iload 5, 2, 5, 0, 0, .null), (23, .iconst 3, 1, 0, 0, 0, .int (nI (3))), (24, .imul, 1, 0, 0, 0, .null), (25, .iconst 2, 1, 0, 0, 0, .int (nI (2))), (26, .iadd, 1, 0, 0, 0, .null), (27, .iload 4, 2, 4, 0, 0, .null)] = true := by decide +kernel
theorem dc_X0_barLeaves_29 : decode (AM.bytes M_X0_barLeaves) 29 = .ok (.invokevirtual 42, 3) := by decide +kernel
theorem g_X0_barLeaves_32_2 : ab_oks M_X0_barLeaves [(32, .iinc 5 1, 3, 5, 0, 0, .int (nI (1))), (35, .goto (-32), 3, 3, 0, 0, .null)] = true := by decide +kernel
theorem dc_X0_barLeaves_38 : decode (AM.bytes M_X0_barLeaves) 38 = .ok (.return_, 1) := by decide +kernel
set_option maxRecDepth 100000 in
set_option maxHeartbeats 4000000 in
theorem s_0barLeaves {E : AE} (d : Nat) (v : Nat) (a : Nat) (b : Nat) (y : Int32)  {o0 t0 p0 m0 u0 l0 : List AC} {T K : Nat → Nat → Int32} {os sc : Int32} (hv : v < 12) (hab : a ≤ b) (hb : b < 40) : CT E M_X0_barLeaves (d + 1) [.ref 4097, .int (nI (v)), .int (nI (a)), .int (nI (b)), .int (y)] (hp o0 (ar T K os sc) t0 p0 m0 u0 l0) (.inl none) (hp o0 (ar (F_0barLeaves_T v a b y T) K os sc) t0 p0 m0 u0 l0) 0 0 := by
  refine CT.of (L := [some (.ref 4097), some (.int (nI (v))), some (.int (nI (a))), some (.int (nI (b))), some (.int (y)), none]) rfl rfl ?_
  refine AR.run g_X0_barLeaves_0_2 3 [some (.ref 4097), some (.int (nI (v))), some (.int (nI (a))), some (.int (nI (b))), some (.int (y)), some (.int (nI (a)))] [] _ [] rfl trivial ?_
  refine AR.cast (L' := [some (.ref 4097), some (.int (nI (v))), some (.int (nI (a))), some (.int (nI (b))), some (.int (y)), some (.int (nI ((a + 0))))]) (by first | rfl | (rw [L_0barLeaves_3])) rfl (by first | rfl | (rw [L_0barLeaves_3])) (AR.loopN (b + 1 - a) (fun j3 => [some (.ref 4097), some (.int (nI (v))), some (.int (nI (a))), some (.int (nI (b))), some (.int (y)), some (.int (nI ((a + j3))))]) (fun j3 => (hp o0 (ar (L_0barLeaves_3 v a y T j3) K os sc) t0 p0 m0 u0 l0)) (fun j3 => True) (fun j3 hj3 hI3 ih3 => ?_) (fun hI3 => ?_) 0 (by omega) (by first | trivial | omega))
  · refine AR.run g_X0_barLeaves_3_2 6 [some (.ref 4097), some (.int (nI (v))), some (.int (nI (a))), some (.int (nI (b))), some (.int (y)), some (.int (nI ((a + j3))))] [.int (nI (b)), .int (nI ((a + j3)))] _ [] rfl trivial ?_
    refine AR.gt2N (tgt := 38) (a := (a + j3)) (b := b) dc_X0_barLeaves_6 (by decide) (by first | rfl | (simp only [nI_add, pk_mul]; first | done | rfl)) (by first | rfl | (simp only [nI_add, pk_mul]; first | done | rfl)) (by omega) (by omega) (fun c6_1 => absurd c6_1 (by omega)) (fun c6_1 => ?_)
    refine AR.run g_X0_barLeaves_9_2 13 [some (.ref 4097), some (.int (nI (v))), some (.int (nI (a))), some (.int (nI (b))), some (.int (y)), some (.int (nI ((a + j3))))] [.int (nI (40)), .int (nI ((a + j3)))] _ [] rfl trivial ?_
    refine AR.ge2N (tgt := 38) (a := (a + j3)) (b := 40) dc_X0_barLeaves_13 (by decide) (by first | rfl | (simp only [nI_add, pk_mul]; first | done | rfl)) (by first | rfl | (simp only [nI_add, pk_mul]; first | done | rfl)) (by omega) (by omega) (fun c13_2 => absurd c13_2 (by omega)) (fun c13_2 => ?_)
    refine AR.run g_X0_barLeaves_16_9 29 [some (.ref 4097), some (.int (nI (v))), some (.int (nI (a))), some (.int (nI (b))), some (.int (y)), some (.int (nI ((a + j3))))] [.int (y), .int (((nI ((a + j3))) * (nI (3))) + (nI (2))), .int (nI (v)), .ref 4101] _ [] rfl trivial ?_
    refine AR.callV0 (4101) [.int (nI (v)), .int (nI ((((a + j3) * 3) + 2))), .int (y)] [] lk_0_42 dc_X0_barLeaves_29 rfl rfl (s_3putT1 _ v (((a + j3) * 3) + 2) y (by omega) (by omega)) (by first | rfl | (simp only [nI_add, pk_mul]; first | done | rfl)) rfl ?_
    refine AR.cast (h1 := (hp o0 (ar (tu (L_0barLeaves_3 v a y T j3) 1 (upd ((L_0barLeaves_3 v a y T j3) 1) ((v * 120) + (((a + j3) * 3) + 2)) y)) K os sc) t0 p0 m0 u0 l0)) rfl rfl rfl ?_
    refine AR.run g_X0_barLeaves_32_2 3 [some (.ref 4097), some (.int (nI (v))), some (.int (nI (a))), some (.int (nI (b))), some (.int (y)), some (.int ((nI ((a + j3))) + (nI (1))))] [] _ [] rfl trivial ?_
    have e3 : L_0barLeaves_3 v a y T (j3 + 1) = (tu (L_0barLeaves_3 v a y T j3) 1 (upd ((L_0barLeaves_3 v a y T j3) 1) ((v * 120) + (((a + j3) * 3) + 2)) y)) := by rw [L_0barLeaves_3, B_0barLeaves_3]
    exact AR.cast (L' := [some (.ref 4097), some (.int (nI (v))), some (.int (nI (a))), some (.int (nI (b))), some (.int (y)), some (.int (nI ((a + (j3 + 1)))))]) (by first | rfl | (rw [nI_add]; done) | (rw [nI_add]; rfl)) rfl (by rw [e3]) (ih3 (by first | trivial | omega))
  · refine AR.run g_X0_barLeaves_3_2 6 [some (.ref 4097), some (.int (nI (v))), some (.int (nI (a))), some (.int (nI (b))), some (.int (y)), some (.int (nI ((a + (b + 1 - a)))))] [.int (nI (b)), .int (nI ((a + (b + 1 - a))))] _ [] rfl trivial ?_
    refine AR.gt2N (tgt := 38) (a := (a + (b + 1 - a))) (b := b) dc_X0_barLeaves_6 (by decide) (by first | rfl | (simp only [nI_add, pk_mul]; first | done | rfl)) (by first | rfl | (simp only [nI_add, pk_mul]; first | done | rfl)) (by omega) (by omega) (fun c6_4 => ?_) (fun c6_4 => absurd c6_4 (by omega))
    have e5_0 : F_0barLeaves_T v a b y T = (L_0barLeaves_3 v a y T (b + 1 - a)) := by rw [F_0barLeaves_T]
    exact AR.retV dc_X0_barLeaves_38 rfl (by rw [e5_0])
def F_0save_K (a : Nat) (b : Nat) (T : Nat → Nat → Int32) (K : Nat → Nat → Int32) : Nat → Nat → Int32 := if 6 ≤ b then (tu (tu (tu (tu (tu (tu K 0 (va_cpy (T 0) (K 0) 0 (((a + b) % 6) * 91) 91)) 1 (va_cpy (T 1) (K 1) 0 (((a + b) % 6) * 1560) 1560)) 2 (va_cpy (T 2) (K 2) 0 (((a + b) % 6) * 25) 25)) 3 (va_cpy (T 3) (K 3) 0 (((a + b) % 6) * 12) 12)) 4 (va_cpy (T 4) (K 4) 0 (((a + b) % 6) * 300) 300)) 5 (va_cpy (T 5) (K 5) 0 (((a + b) % 6) * 11) 11)) else (tu (tu (tu (tu (tu (tu K 0 (va_cpy (T 0) (K 0) 0 (((a + b) % 6) * 91) 91)) 1 (va_cpy (T 1) (K 1) 0 (((a + b) % 6) * 1560) 1560)) 2 (va_cpy (T 2) (K 2) 0 (((a + b) % 6) * 25) 25)) 3 (va_cpy (T 3) (K 3) 0 (((a + b) % 6) * 12) 12)) 4 (va_cpy (T 4) (K 4) 0 (((a + b) % 6) * 300) 300)) 5 (va_cpy (T 5) (K 5) 0 (((a + b) % 6) * 11) 11))
def F_0save_os (a : Nat) (b : Nat) (os : Int32) : Int32 := if 6 ≤ b then (nI (((a + 1) % 6))) else os
def F_0save_sc (b : Nat) (sc : Int32) : Int32 := if 6 ≤ b then sc else ((nI (b)) + (nI (1)))
theorem g_X0_save_0_2 : ab_oks M_X0_save [(0, .aload_n 0, 1, 0, 0, 0, .null), (1, .getfield 35, 3, 0, 6, 159, .null)] = true := by decide +kernel
theorem g_X0_save_4_2 : ab_oks M_X0_save [(4, .aload_n 0, 1, 0, 0, 0, .null), (5, .getfield 39, 3, 0, 7, 160, .null)] = true := by decide +kernel
theorem g_X0_save_8_2 : ab_oks M_X0_save [(8, .iadd, 1, 0, 0, 0, .null), (9, .bipush 6, 2, 0, 0, 0, .int (nI (6)))] = true := by decide +kernel
theorem g_X0_save_11_1 : ab_oks M_X0_save [(11, .irem, 1, 0, 0, 0, .null)] = true := by decide +kernel
theorem g_X0_save_12_4 : ab_oks M_X0_save [(12, .istore_n 1, 1, 1, 0, 0, .null), (13, .aload_n 0, 1, 0, 0, 0, .null), (14, .getfield 14, 3, 0, 0, 153, .null), (17, .iload_n 1, 1, 1, 0, 0, .null)] = true := by decide +kernel
theorem lk_0_49 : ab_lkV "LeafCradles$Archive" 49 M_X3_keep 1 [620, 621, 622, 93, 623] = true := by decide +kernel
theorem dc_X0_save_18 : decode (AM.bytes M_X0_save) 18 = .ok (.invokevirtual 49, 3) := by decide +kernel
theorem g_X0_save_21_3 : ab_oks M_X0_save [(21, .aload_n 0, 1, 0, 0, 0, .null), (22, .getfield 20, 3, 0, 1, 154, .null), (25, .iload_n 1, 1, 1, 0, 0, .null)] = true := by decide +kernel
theorem dc_X0_save_26 : decode (AM.bytes M_X0_save) 26 = .ok (.invokevirtual 49, 3) := by decide +kernel
theorem g_X0_save_29_3 : ab_oks M_X0_save [(29, .aload_n 0, 1, 0, 0, 0, .null), (30, .getfield 23, 3, 0, 2, 155, .null), (33, .iload_n 1, 1, 1, 0, 0, .null)] = true := by decide +kernel
theorem dc_X0_save_34 : decode (AM.bytes M_X0_save) 34 = .ok (.invokevirtual 49, 3) := by decide +kernel
theorem g_X0_save_37_3 : ab_oks M_X0_save [(37, .aload_n 0, 1, 0, 0, 0, .null), (38, .getfield 26, 3, 0, 3, 156, .null), (41, .iload_n 1, 1, 1, 0, 0, .null)] = true := by decide +kernel
theorem dc_X0_save_42 : decode (AM.bytes M_X0_save) 42 = .ok (.invokevirtual 49, 3) := by decide +kernel
theorem g_X0_save_45_3 : ab_oks M_X0_save [(45, .aload_n 0, 1, 0, 0, 0, .null), (46, .getfield 29, 3, 0, 4, 157, .null), (49, .iload_n 1, 1, 1, 0, 0, .null)] = true := by decide +kernel
theorem dc_X0_save_50 : decode (AM.bytes M_X0_save) 50 = .ok (.invokevirtual 49, 3) := by decide +kernel
theorem g_X0_save_53_3 : ab_oks M_X0_save [(53, .aload_n 0, 1, 0, 0, 0, .null), (54, .getfield 32, 3, 0, 5, 158, .null), (57, .iload_n 1, 1, 1, 0, 0, .null)] = true := by decide +kernel
theorem dc_X0_save_58 : decode (AM.bytes M_X0_save) 58 = .ok (.invokevirtual 49, 3) := by decide +kernel
theorem g_X0_save_61_2 : ab_oks M_X0_save [(61, .aload_n 0, 1, 0, 0, 0, .null), (62, .getfield 39, 3, 0, 7, 160, .null)] = true := by decide +kernel
theorem g_X0_save_65_1 : ab_oks M_X0_save [(65, .bipush 6, 2, 0, 0, 0, .int (nI (6)))] = true := by decide +kernel
theorem dc_X0_save_67 : decode (AM.bytes M_X0_save) 67 = .ok (.if_icmp .ge 16, 3) := by decide +kernel
theorem g_X0_save_83_3 : ab_oks M_X0_save [(83, .aload_n 0, 1, 0, 0, 0, .null), (84, .aload_n 0, 1, 0, 0, 0, .null), (85, .getfield 35, 3, 0, 6, 159, .null)] = true := by decide +kernel
theorem g_X0_save_88_3 : ab_oks M_X0_save [(88, .iconst 1, 1, 0, 0, 0, .int (nI (1))), (89, .iadd, 1, 0, 0, 0, .null), (90, .bipush 6, 2, 0, 0, 0, .int (nI (6)))] = true := by decide +kernel
theorem g_X0_save_92_1 : ab_oks M_X0_save [(92, .irem, 1, 0, 0, 0, .null)] = true := by decide +kernel
theorem g_X0_save_93_1 : ab_oks M_X0_save [(93, .putfield 35, 3, 0, 6, 159, .null)] = true := by decide +kernel
theorem dc_X0_save_96 : decode (AM.bytes M_X0_save) 96 = .ok (.return_, 1) := by decide +kernel
theorem g_X0_save_70_3 : ab_oks M_X0_save [(70, .aload_n 0, 1, 0, 0, 0, .null), (71, .dup, 1, 0, 0, 0, .null), (72, .getfield 39, 3, 0, 7, 160, .null)] = true := by decide +kernel
theorem g_X0_save_75_4 : ab_oks M_X0_save [(75, .iconst 1, 1, 0, 0, 0, .int (nI (1))), (76, .iadd, 1, 0, 0, 0, .null), (77, .putfield 39, 3, 0, 7, 160, .null), (80, .goto 16, 3, 96, 0, 0, .null)] = true := by decide +kernel
set_option maxRecDepth 100000 in
set_option maxHeartbeats 4000000 in
theorem s_0save {E : AE} (d : Nat) {a : Nat} {b : Nat}  {o0 t0 p0 m0 u0 l0 : List AC} {T K : Nat → Nat → Int32} {os sc : Int32} (hos : os = nI a) (ha : a < 6) (hsc : sc = nI b) (hb : b ≤ 6) : CT E M_X0_save (d + 2) [.ref 4097] (hp o0 (ar T K os sc) t0 p0 m0 u0 l0) (.inl none) (hp o0 (ar T (F_0save_K a b T K) (F_0save_os a b os) (F_0save_sc b sc)) t0 p0 m0 u0 l0) 0 0 := by
  refine CT.of (L := [some (.ref 4097), none]) rfl rfl ?_
  refine AR.run g_X0_save_0_2 4 [some (.ref 4097), none] [.int (os)] _ [] rfl trivial ?_
  refine AR.top hos ?_
  refine AR.run g_X0_save_4_2 8 [some (.ref 4097), none] [.int (sc), .int (nI (a))] _ [] rfl trivial ?_
  refine AR.top hsc ?_
  refine AR.run g_X0_save_8_2 11 [some (.ref 4097), none] [.int (nI (6)), .int ((nI (a)) + (nI (b)))] _ [] rfl trivial ?_
  refine AR.cast (L' := [some (.ref 4097), none]) (st' := [.int (nI (6)), .int (nI ((a + b)))]) (by first | rfl | (simp only [nI_add, pk_mul]; first | done | rfl)) (by first | rfl | (simp only [nI_add, pk_mul]; first | done | rfl)) rfl ?_
  refine AR.run g_X0_save_11_1 12 [some (.ref 4097), none] [.int ((nI ((a + b))) - (nI ((a + b))) / (nI (6)) * (nI (6)))] _ [¬ (nI (6)) = 0] rfl (show ¬ ((nI (6)) = (0 : Int32)) from by decide) ?_
  refine AR.top (y := nI ((a + b) % 6)) (pk_rem (by omega) (by decide) (by decide)) ?_
  refine AR.run g_X0_save_12_4 18 [some (.ref 4097), some (.int (nI (((a + b) % 6))))] [.int (nI (((a + b) % 6))), .ref 4098] _ [] rfl trivial ?_
  refine AR.callV0 (4098) [.int (nI (((a + b) % 6)))] [] lk_0_49 dc_X0_save_18 rfl rfl (s_3keepT0 _ ((a + b) % 6) (by omega)) (by first | rfl | (simp only [nI_add, pk_mul]; first | done | rfl)) rfl ?_
  refine AR.cast (h1 := (hp o0 (ar T (tu K 0 (va_cpy (T 0) (K 0) 0 (((a + b) % 6) * 91) 91)) os sc) t0 p0 m0 u0 l0)) rfl rfl rfl ?_
  refine AR.run g_X0_save_21_3 26 [some (.ref 4097), some (.int (nI (((a + b) % 6))))] [.int (nI (((a + b) % 6))), .ref 4101] _ [] rfl trivial ?_
  refine AR.callV0 (4101) [.int (nI (((a + b) % 6)))] [] lk_0_49 dc_X0_save_26 rfl rfl (s_3keepT1 _ ((a + b) % 6) (by omega)) (by first | rfl | (simp only [nI_add, pk_mul]; first | done | rfl)) rfl ?_
  refine AR.cast (h1 := (hp o0 (ar T (tu (tu K 0 (va_cpy (T 0) (K 0) 0 (((a + b) % 6) * 91) 91)) 1 (va_cpy (T 1) (K 1) 0 (((a + b) % 6) * 1560) 1560)) os sc) t0 p0 m0 u0 l0)) rfl rfl rfl ?_
  refine AR.run g_X0_save_29_3 34 [some (.ref 4097), some (.int (nI (((a + b) % 6))))] [.int (nI (((a + b) % 6))), .ref 4104] _ [] rfl trivial ?_
  refine AR.callV0 (4104) [.int (nI (((a + b) % 6)))] [] lk_0_49 dc_X0_save_34 rfl rfl (s_3keepT2 _ ((a + b) % 6) (by omega)) (by first | rfl | (simp only [nI_add, pk_mul]; first | done | rfl)) rfl ?_
  refine AR.cast (h1 := (hp o0 (ar T (tu (tu (tu K 0 (va_cpy (T 0) (K 0) 0 (((a + b) % 6) * 91) 91)) 1 (va_cpy (T 1) (K 1) 0 (((a + b) % 6) * 1560) 1560)) 2 (va_cpy (T 2) (K 2) 0 (((a + b) % 6) * 25) 25)) os sc) t0 p0 m0 u0 l0)) rfl rfl rfl ?_
  refine AR.run g_X0_save_37_3 42 [some (.ref 4097), some (.int (nI (((a + b) % 6))))] [.int (nI (((a + b) % 6))), .ref 4107] _ [] rfl trivial ?_
  refine AR.callV0 (4107) [.int (nI (((a + b) % 6)))] [] lk_0_49 dc_X0_save_42 rfl rfl (s_3keepT3 _ ((a + b) % 6) (by omega)) (by first | rfl | (simp only [nI_add, pk_mul]; first | done | rfl)) rfl ?_
  refine AR.cast (h1 := (hp o0 (ar T (tu (tu (tu (tu K 0 (va_cpy (T 0) (K 0) 0 (((a + b) % 6) * 91) 91)) 1 (va_cpy (T 1) (K 1) 0 (((a + b) % 6) * 1560) 1560)) 2 (va_cpy (T 2) (K 2) 0 (((a + b) % 6) * 25) 25)) 3 (va_cpy (T 3) (K 3) 0 (((a + b) % 6) * 12) 12)) os sc) t0 p0 m0 u0 l0)) rfl rfl rfl ?_
  refine AR.run g_X0_save_45_3 50 [some (.ref 4097), some (.int (nI (((a + b) % 6))))] [.int (nI (((a + b) % 6))), .ref 4110] _ [] rfl trivial ?_
  refine AR.callV0 (4110) [.int (nI (((a + b) % 6)))] [] lk_0_49 dc_X0_save_50 rfl rfl (s_3keepT4 _ ((a + b) % 6) (by omega)) (by first | rfl | (simp only [nI_add, pk_mul]; first | done | rfl)) rfl ?_
  refine AR.cast (h1 := (hp o0 (ar T (tu (tu (tu (tu (tu K 0 (va_cpy (T 0) (K 0) 0 (((a + b) % 6) * 91) 91)) 1 (va_cpy (T 1) (K 1) 0 (((a + b) % 6) * 1560) 1560)) 2 (va_cpy (T 2) (K 2) 0 (((a + b) % 6) * 25) 25)) 3 (va_cpy (T 3) (K 3) 0 (((a + b) % 6) * 12) 12)) 4 (va_cpy (T 4) (K 4) 0 (((a + b) % 6) * 300) 300)) os sc) t0 p0 m0 u0 l0)) rfl rfl rfl ?_
  refine AR.run g_X0_save_53_3 58 [some (.ref 4097), some (.int (nI (((a + b) % 6))))] [.int (nI (((a + b) % 6))), .ref 4113] _ [] rfl trivial ?_
  refine AR.callV0 (4113) [.int (nI (((a + b) % 6)))] [] lk_0_49 dc_X0_save_58 rfl rfl (s_3keepT5 _ ((a + b) % 6) (by omega)) (by first | rfl | (simp only [nI_add, pk_mul]; first | done | rfl)) rfl ?_
  refine AR.cast (h1 := (hp o0 (ar T (tu (tu (tu (tu (tu (tu K 0 (va_cpy (T 0) (K 0) 0 (((a + b) % 6) * 91) 91)) 1 (va_cpy (T 1) (K 1) 0 (((a + b) % 6) * 1560) 1560)) 2 (va_cpy (T 2) (K 2) 0 (((a + b) % 6) * 25) 25)) 3 (va_cpy (T 3) (K 3) 0 (((a + b) % 6) * 12) 12)) 4 (va_cpy (T 4) (K 4) 0 (((a + b) % 6) * 300) 300)) 5 (va_cpy (T 5) (K 5) 0 (((a + b) % 6) * 11) 11)) os sc) t0 p0 m0 u0 l0)) rfl rfl rfl ?_
  refine AR.run g_X0_save_61_2 65 [some (.ref 4097), some (.int (nI (((a + b) % 6))))] [.int (sc)] _ [] rfl trivial ?_
  refine AR.top hsc ?_
  refine AR.run g_X0_save_65_1 67 [some (.ref 4097), some (.int (nI (((a + b) % 6))))] [.int (nI (6)), .int (nI (b))] _ [] rfl trivial ?_
  refine AR.ge2N (tgt := 83) (a := b) (b := 6) dc_X0_save_67 (by decide) (by first | rfl | (simp only [nI_add, pk_mul]; first | done | rfl)) (by first | rfl | (simp only [nI_add, pk_mul]; first | done | rfl)) (by omega) (by omega) (fun c67_1 => ?_) (fun c67_1 => ?_)
  · refine AR.run g_X0_save_83_3 88 [some (.ref 4097), some (.int (nI (((a + b) % 6))))] [.int (os), .ref 4097] _ [] rfl trivial ?_
    refine AR.top hos ?_
    refine AR.run g_X0_save_88_3 92 [some (.ref 4097), some (.int (nI (((a + b) % 6))))] [.int (nI (6)), .int ((nI (a)) + (nI (1))), .ref 4097] _ [] rfl trivial ?_
    refine AR.cast (L' := [some (.ref 4097), some (.int (nI (((a + b) % 6))))]) (st' := [.int (nI (6)), .int (nI ((a + 1))), .ref 4097]) (by first | rfl | (simp only [nI_add, pk_mul]; first | done | rfl)) (by first | rfl | (simp only [nI_add, pk_mul]; first | done | rfl)) rfl ?_
    refine AR.run g_X0_save_92_1 93 [some (.ref 4097), some (.int (nI (((a + b) % 6))))] [.int ((nI ((a + 1))) - (nI ((a + 1))) / (nI (6)) * (nI (6))), .ref 4097] _ [¬ (nI (6)) = 0] rfl (show ¬ ((nI (6)) = (0 : Int32)) from by decide) ?_
    refine AR.top (y := nI ((a + 1) % 6)) (pk_rem (by omega) (by decide) (by decide)) ?_
    refine AR.run g_X0_save_93_1 96 [some (.ref 4097), some (.int (nI (((a + b) % 6))))] [] (hp o0 (ar T (tu (tu (tu (tu (tu (tu K 0 (va_cpy (T 0) (K 0) 0 (((a + b) % 6) * 91) 91)) 1 (va_cpy (T 1) (K 1) 0 (((a + b) % 6) * 1560) 1560)) 2 (va_cpy (T 2) (K 2) 0 (((a + b) % 6) * 25) 25)) 3 (va_cpy (T 3) (K 3) 0 (((a + b) % 6) * 12) 12)) 4 (va_cpy (T 4) (K 4) 0 (((a + b) % 6) * 300) 300)) 5 (va_cpy (T 5) (K 5) 0 (((a + b) % 6) * 11) 11)) (nI (((a + 1) % 6))) sc) t0 p0 m0 u0 l0) [] rfl trivial ?_
    have e2_0 : F_0save_K a b T K = (tu (tu (tu (tu (tu (tu K 0 (va_cpy (T 0) (K 0) 0 (((a + b) % 6) * 91) 91)) 1 (va_cpy (T 1) (K 1) 0 (((a + b) % 6) * 1560) 1560)) 2 (va_cpy (T 2) (K 2) 0 (((a + b) % 6) * 25) 25)) 3 (va_cpy (T 3) (K 3) 0 (((a + b) % 6) * 12) 12)) 4 (va_cpy (T 4) (K 4) 0 (((a + b) % 6) * 300) 300)) 5 (va_cpy (T 5) (K 5) 0 (((a + b) % 6) * 11) 11)) := by rw [F_0save_K, if_pos (show 6 ≤ b from by omega)]
    have e2_1 : F_0save_os a b os = (nI (((a + 1) % 6))) := by rw [F_0save_os, if_pos (show 6 ≤ b from by omega)]
    have e2_2 : F_0save_sc b sc = sc := by rw [F_0save_sc, if_pos (show 6 ≤ b from by omega)]
    exact AR.retV dc_X0_save_96 rfl (by rw [e2_0, e2_1, e2_2])
  · refine AR.run g_X0_save_70_3 75 [some (.ref 4097), some (.int (nI (((a + b) % 6))))] [.int (sc), .ref 4097] _ [] rfl trivial ?_
    refine AR.top hsc ?_
    refine AR.run g_X0_save_75_4 96 [some (.ref 4097), some (.int (nI (((a + b) % 6))))] [] (hp o0 (ar T (tu (tu (tu (tu (tu (tu K 0 (va_cpy (T 0) (K 0) 0 (((a + b) % 6) * 91) 91)) 1 (va_cpy (T 1) (K 1) 0 (((a + b) % 6) * 1560) 1560)) 2 (va_cpy (T 2) (K 2) 0 (((a + b) % 6) * 25) 25)) 3 (va_cpy (T 3) (K 3) 0 (((a + b) % 6) * 12) 12)) 4 (va_cpy (T 4) (K 4) 0 (((a + b) % 6) * 300) 300)) 5 (va_cpy (T 5) (K 5) 0 (((a + b) % 6) * 11) 11)) os ((nI (b)) + (nI (1)))) t0 p0 m0 u0 l0) [] rfl trivial ?_
    have e3_0 : F_0save_K a b T K = (tu (tu (tu (tu (tu (tu K 0 (va_cpy (T 0) (K 0) 0 (((a + b) % 6) * 91) 91)) 1 (va_cpy (T 1) (K 1) 0 (((a + b) % 6) * 1560) 1560)) 2 (va_cpy (T 2) (K 2) 0 (((a + b) % 6) * 25) 25)) 3 (va_cpy (T 3) (K 3) 0 (((a + b) % 6) * 12) 12)) 4 (va_cpy (T 4) (K 4) 0 (((a + b) % 6) * 300) 300)) 5 (va_cpy (T 5) (K 5) 0 (((a + b) % 6) * 11) 11)) := by rw [F_0save_K, if_neg (show ¬ (6 ≤ b) from by omega)]
    have e3_1 : F_0save_os a b os = os := by rw [F_0save_os, if_neg (show ¬ (6 ≤ b) from by omega)]
    have e3_2 : F_0save_sc b sc = ((nI (b)) + (nI (1))) := by rw [F_0save_sc, if_neg (show ¬ (6 ≤ b) from by omega)]
    exact AR.retV dc_X0_save_96 rfl (by rw [e3_0, e3_1, e3_2])
def F_0restore (b : Nat) : Int32 := (nI ((b - 1)))
def F_0restore_T (a : Nat) (b : Nat) (T : Nat → Nat → Int32) (K : Nat → Nat → Int32) : Nat → Nat → Int32 := (tu (tu (tu (tu (tu (tu T 0 (va_cpy (K 0) (T 0) (((a + (b - 1)) % 6) * 91) 0 91)) 1 (va_cpy (K 1) (T 1) (((a + (b - 1)) % 6) * 1560) 0 1560)) 2 (va_cpy (K 2) (T 2) (((a + (b - 1)) % 6) * 25) 0 25)) 3 (va_cpy (K 3) (T 3) (((a + (b - 1)) % 6) * 12) 0 12)) 4 (va_cpy (K 4) (T 4) (((a + (b - 1)) % 6) * 300) 0 300)) 5 (va_cpy (K 5) (T 5) (((a + (b - 1)) % 6) * 11) 0 11))
def F_0restore_sc (b : Nat) : Int32 := (nI ((b - 1)))
theorem g_X0_restore_0_3 : ab_oks M_X0_restore [(0, .aload_n 0, 1, 0, 0, 0, .null), (1, .dup, 1, 0, 0, 0, .null), (2, .getfield 39, 3, 0, 7, 160, .null)] = true := by decide +kernel
theorem g_X0_restore_5_2 : ab_oks M_X0_restore [(5, .iconst 1, 1, 0, 0, 0, .int (nI (1))), (6, .isub, 1, 0, 0, 0, .null)] = true := by decide +kernel
theorem g_X0_restore_7_3 : ab_oks M_X0_restore [(7, .putfield 39, 3, 0, 7, 160, .null), (10, .aload_n 0, 1, 0, 0, 0, .null), (11, .getfield 35, 3, 0, 6, 159, .null)] = true := by decide +kernel
theorem g_X0_restore_14_4 : ab_oks M_X0_restore [(14, .aload_n 0, 1, 0, 0, 0, .null), (15, .getfield 39, 3, 0, 7, 160, .null), (18, .iadd, 1, 0, 0, 0, .null), (19, .bipush 6, 2, 0, 0, 0, .int (nI (6)))] = true := by decide +kernel
theorem g_X0_restore_21_1 : ab_oks M_X0_restore [(21, .irem, 1, 0, 0, 0, .null)] = true := by decide +kernel
theorem g_X0_restore_22_4 : ab_oks M_X0_restore [(22, .istore_n 1, 1, 1, 0, 0, .null), (23, .aload_n 0, 1, 0, 0, 0, .null), (24, .getfield 14, 3, 0, 0, 153, .null), (27, .iload_n 1, 1, 1, 0, 0, .null)] = true := by decide +kernel
theorem lk_0_53 : ab_lkV "LeafCradles$Archive" 53 M_X3_fetch 1 [837, 838, 839, 93, 840] = true := by decide +kernel
theorem dc_X0_restore_28 : decode (AM.bytes M_X0_restore) 28 = .ok (.invokevirtual 53, 3) := by decide +kernel
theorem g_X0_restore_31_3 : ab_oks M_X0_restore [(31, .aload_n 0, 1, 0, 0, 0, .null), (32, .getfield 20, 3, 0, 1, 154, .null), (35, .iload_n 1, 1, 1, 0, 0, .null)] = true := by decide +kernel
theorem dc_X0_restore_36 : decode (AM.bytes M_X0_restore) 36 = .ok (.invokevirtual 53, 3) := by decide +kernel
theorem g_X0_restore_39_3 : ab_oks M_X0_restore [(39, .aload_n 0, 1, 0, 0, 0, .null), (40, .getfield 23, 3, 0, 2, 155, .null), (43, .iload_n 1, 1, 1, 0, 0, .null)] = true := by decide +kernel
theorem dc_X0_restore_44 : decode (AM.bytes M_X0_restore) 44 = .ok (.invokevirtual 53, 3) := by decide +kernel
theorem g_X0_restore_47_3 : ab_oks M_X0_restore [(47, .aload_n 0, 1, 0, 0, 0, .null), (48, .getfield 26, 3, 0, 3, 156, .null), (51, .iload_n 1, 1, 1, 0, 0, .null)] = true := by decide +kernel
theorem dc_X0_restore_52 : decode (AM.bytes M_X0_restore) 52 = .ok (.invokevirtual 53, 3) := by decide +kernel
theorem g_X0_restore_55_3 : ab_oks M_X0_restore [(55, .aload_n 0, 1, 0, 0, 0, .null), (56, .getfield 29, 3, 0, 4, 157, .null), (59, .iload_n 1, 1, 1, 0, 0, .null)] = true := by decide +kernel
theorem dc_X0_restore_60 : decode (AM.bytes M_X0_restore) 60 = .ok (.invokevirtual 53, 3) := by decide +kernel
theorem g_X0_restore_63_3 : ab_oks M_X0_restore [(63, .aload_n 0, 1, 0, 0, 0, .null), (64, .getfield 32, 3, 0, 5, 158, .null), (67, .iload_n 1, 1, 1, 0, 0, .null)] = true := by decide +kernel
theorem dc_X0_restore_68 : decode (AM.bytes M_X0_restore) 68 = .ok (.invokevirtual 53, 3) := by decide +kernel
theorem g_X0_restore_71_2 : ab_oks M_X0_restore [(71, .aload_n 0, 1, 0, 0, 0, .null), (72, .getfield 39, 3, 0, 7, 160, .null)] = true := by decide +kernel
theorem dc_X0_restore_75 : decode (AM.bytes M_X0_restore) 75 = .ok (.ireturn, 1) := by decide +kernel
set_option maxRecDepth 100000 in
set_option maxHeartbeats 4000000 in
theorem s_0restore {E : AE} (d : Nat) {a : Nat} {b : Nat}  {o0 t0 p0 m0 u0 l0 : List AC} {T K : Nat → Nat → Int32} {os sc : Int32} (hos : os = nI a) (ha : a < 6) (hsc : sc = nI b) (hb : b ≤ 6) (hb1 : 1 ≤ b) : CT E M_X0_restore (d + 2) [.ref 4097] (hp o0 (ar T K os sc) t0 p0 m0 u0 l0) (.inl (some (.int (F_0restore b)))) (hp o0 (ar (F_0restore_T a b T K) K os (F_0restore_sc b)) t0 p0 m0 u0 l0) 0 0 := by
  refine CT.of (L := [some (.ref 4097), none]) rfl rfl ?_
  refine AR.run g_X0_restore_0_3 5 [some (.ref 4097), none] [.int (sc), .ref 4097] _ [] rfl trivial ?_
  refine AR.top hsc ?_
  refine AR.run g_X0_restore_5_2 7 [some (.ref 4097), none] [.int ((nI (b)) - (nI (1))), .ref 4097] _ [] rfl trivial ?_
  refine AR.cast (L' := [some (.ref 4097), none]) (st' := [.int (nI ((b - 1))), .ref 4097]) rfl (by rw [pk_sub (by omega)]) rfl ?_
  refine AR.run g_X0_restore_7_3 14 [some (.ref 4097), none] [.int (os)] (hp o0 (ar T K os (nI ((b - 1)))) t0 p0 m0 u0 l0) [] rfl trivial ?_
  refine AR.top hos ?_
  refine AR.run g_X0_restore_14_4 21 [some (.ref 4097), none] [.int (nI (6)), .int ((nI (a)) + (nI ((b - 1))))] _ [] rfl trivial ?_
  refine AR.cast (L' := [some (.ref 4097), none]) (st' := [.int (nI (6)), .int (nI ((a + (b - 1))))]) (by first | rfl | (simp only [nI_add, pk_mul]; first | done | rfl)) (by first | rfl | (simp only [nI_add, pk_mul]; first | done | rfl)) rfl ?_
  refine AR.run g_X0_restore_21_1 22 [some (.ref 4097), none] [.int ((nI ((a + (b - 1)))) - (nI ((a + (b - 1)))) / (nI (6)) * (nI (6)))] _ [¬ (nI (6)) = 0] rfl (show ¬ ((nI (6)) = (0 : Int32)) from by decide) ?_
  refine AR.top (y := nI ((a + (b - 1)) % 6)) (pk_rem (by omega) (by decide) (by decide)) ?_
  refine AR.run g_X0_restore_22_4 28 [some (.ref 4097), some (.int (nI (((a + (b - 1)) % 6))))] [.int (nI (((a + (b - 1)) % 6))), .ref 4098] _ [] rfl trivial ?_
  refine AR.callV0 (4098) [.int (nI (((a + (b - 1)) % 6)))] [] lk_0_53 dc_X0_restore_28 rfl rfl (s_3fetchT0 _ ((a + (b - 1)) % 6) (by omega)) (by first | rfl | (simp only [nI_add, pk_mul]; first | done | rfl)) rfl ?_
  refine AR.cast (h1 := (hp o0 (ar (tu T 0 (va_cpy (K 0) (T 0) (((a + (b - 1)) % 6) * 91) 0 91)) K os (nI ((b - 1)))) t0 p0 m0 u0 l0)) rfl rfl rfl ?_
  refine AR.run g_X0_restore_31_3 36 [some (.ref 4097), some (.int (nI (((a + (b - 1)) % 6))))] [.int (nI (((a + (b - 1)) % 6))), .ref 4101] _ [] rfl trivial ?_
  refine AR.callV0 (4101) [.int (nI (((a + (b - 1)) % 6)))] [] lk_0_53 dc_X0_restore_36 rfl rfl (s_3fetchT1 _ ((a + (b - 1)) % 6) (by omega)) (by first | rfl | (simp only [nI_add, pk_mul]; first | done | rfl)) rfl ?_
  refine AR.cast (h1 := (hp o0 (ar (tu (tu T 0 (va_cpy (K 0) (T 0) (((a + (b - 1)) % 6) * 91) 0 91)) 1 (va_cpy (K 1) (T 1) (((a + (b - 1)) % 6) * 1560) 0 1560)) K os (nI ((b - 1)))) t0 p0 m0 u0 l0)) rfl rfl rfl ?_
  refine AR.run g_X0_restore_39_3 44 [some (.ref 4097), some (.int (nI (((a + (b - 1)) % 6))))] [.int (nI (((a + (b - 1)) % 6))), .ref 4104] _ [] rfl trivial ?_
  refine AR.callV0 (4104) [.int (nI (((a + (b - 1)) % 6)))] [] lk_0_53 dc_X0_restore_44 rfl rfl (s_3fetchT2 _ ((a + (b - 1)) % 6) (by omega)) (by first | rfl | (simp only [nI_add, pk_mul]; first | done | rfl)) rfl ?_
  refine AR.cast (h1 := (hp o0 (ar (tu (tu (tu T 0 (va_cpy (K 0) (T 0) (((a + (b - 1)) % 6) * 91) 0 91)) 1 (va_cpy (K 1) (T 1) (((a + (b - 1)) % 6) * 1560) 0 1560)) 2 (va_cpy (K 2) (T 2) (((a + (b - 1)) % 6) * 25) 0 25)) K os (nI ((b - 1)))) t0 p0 m0 u0 l0)) rfl rfl rfl ?_
  refine AR.run g_X0_restore_47_3 52 [some (.ref 4097), some (.int (nI (((a + (b - 1)) % 6))))] [.int (nI (((a + (b - 1)) % 6))), .ref 4107] _ [] rfl trivial ?_
  refine AR.callV0 (4107) [.int (nI (((a + (b - 1)) % 6)))] [] lk_0_53 dc_X0_restore_52 rfl rfl (s_3fetchT3 _ ((a + (b - 1)) % 6) (by omega)) (by first | rfl | (simp only [nI_add, pk_mul]; first | done | rfl)) rfl ?_
  refine AR.cast (h1 := (hp o0 (ar (tu (tu (tu (tu T 0 (va_cpy (K 0) (T 0) (((a + (b - 1)) % 6) * 91) 0 91)) 1 (va_cpy (K 1) (T 1) (((a + (b - 1)) % 6) * 1560) 0 1560)) 2 (va_cpy (K 2) (T 2) (((a + (b - 1)) % 6) * 25) 0 25)) 3 (va_cpy (K 3) (T 3) (((a + (b - 1)) % 6) * 12) 0 12)) K os (nI ((b - 1)))) t0 p0 m0 u0 l0)) rfl rfl rfl ?_
  refine AR.run g_X0_restore_55_3 60 [some (.ref 4097), some (.int (nI (((a + (b - 1)) % 6))))] [.int (nI (((a + (b - 1)) % 6))), .ref 4110] _ [] rfl trivial ?_
  refine AR.callV0 (4110) [.int (nI (((a + (b - 1)) % 6)))] [] lk_0_53 dc_X0_restore_60 rfl rfl (s_3fetchT4 _ ((a + (b - 1)) % 6) (by omega)) (by first | rfl | (simp only [nI_add, pk_mul]; first | done | rfl)) rfl ?_
  refine AR.cast (h1 := (hp o0 (ar (tu (tu (tu (tu (tu T 0 (va_cpy (K 0) (T 0) (((a + (b - 1)) % 6) * 91) 0 91)) 1 (va_cpy (K 1) (T 1) (((a + (b - 1)) % 6) * 1560) 0 1560)) 2 (va_cpy (K 2) (T 2) (((a + (b - 1)) % 6) * 25) 0 25)) 3 (va_cpy (K 3) (T 3) (((a + (b - 1)) % 6) * 12) 0 12)) 4 (va_cpy (K 4) (T 4) (((a + (b - 1)) % 6) * 300) 0 300)) K os (nI ((b - 1)))) t0 p0 m0 u0 l0)) rfl rfl rfl ?_
  refine AR.run g_X0_restore_63_3 68 [some (.ref 4097), some (.int (nI (((a + (b - 1)) % 6))))] [.int (nI (((a + (b - 1)) % 6))), .ref 4113] _ [] rfl trivial ?_
  refine AR.callV0 (4113) [.int (nI (((a + (b - 1)) % 6)))] [] lk_0_53 dc_X0_restore_68 rfl rfl (s_3fetchT5 _ ((a + (b - 1)) % 6) (by omega)) (by first | rfl | (simp only [nI_add, pk_mul]; first | done | rfl)) rfl ?_
  refine AR.cast (h1 := (hp o0 (ar (tu (tu (tu (tu (tu (tu T 0 (va_cpy (K 0) (T 0) (((a + (b - 1)) % 6) * 91) 0 91)) 1 (va_cpy (K 1) (T 1) (((a + (b - 1)) % 6) * 1560) 0 1560)) 2 (va_cpy (K 2) (T 2) (((a + (b - 1)) % 6) * 25) 0 25)) 3 (va_cpy (K 3) (T 3) (((a + (b - 1)) % 6) * 12) 0 12)) 4 (va_cpy (K 4) (T 4) (((a + (b - 1)) % 6) * 300) 0 300)) 5 (va_cpy (K 5) (T 5) (((a + (b - 1)) % 6) * 11) 0 11)) K os (nI ((b - 1)))) t0 p0 m0 u0 l0)) rfl rfl rfl ?_
  refine AR.run g_X0_restore_71_2 75 [some (.ref 4097), some (.int (nI (((a + (b - 1)) % 6))))] [.int (nI ((b - 1)))] _ [] rfl trivial ?_
  have e1_0 : F_0restore b = (nI ((b - 1))) := by rw [F_0restore]
  have e1_1 : F_0restore_T a b T K = (tu (tu (tu (tu (tu (tu T 0 (va_cpy (K 0) (T 0) (((a + (b - 1)) % 6) * 91) 0 91)) 1 (va_cpy (K 1) (T 1) (((a + (b - 1)) % 6) * 1560) 0 1560)) 2 (va_cpy (K 2) (T 2) (((a + (b - 1)) % 6) * 25) 0 25)) 3 (va_cpy (K 3) (T 3) (((a + (b - 1)) % 6) * 12) 0 12)) 4 (va_cpy (K 4) (T 4) (((a + (b - 1)) % 6) * 300) 0 300)) 5 (va_cpy (K 5) (T 5) (((a + (b - 1)) % 6) * 11) 0 11)) := by rw [F_0restore_T]
  have e1_2 : F_0restore_sc b = (nI ((b - 1))) := by rw [F_0restore_sc]
  exact AR.retI dc_X0_restore_75 rfl e1_0.symm (by rw [e1_1, e1_2])
