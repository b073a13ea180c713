def W_0placeAt_8 (v : Int32) (m : Int32) (T : Nat → Nat → Int32) : Nat → Int32
  | 0 => (-1)
  | e8 + 1 => if ((T 4) (e8 * 5 + 2)) = v then if m < ((T 4) (e8 * 5 + 0)) then W_0placeAt_8 v m T e8  else ((T 4) (e8 * 5 + 3)) else W_0placeAt_8 v m T e8 
theorem g_X0_placeAt_0_2 : ab_oks M_X0_placeAt [(0, .aload_n 0, 1, 0, 0, 0, .null), (1, .iconst 5, 1, 0, 0, 0, .int (nI (5)))] = true := by decide +kernel
theorem lk_0_56 : ab_lkV "LeafCradles$Archive" 56 M_X0_number 1 [264, 265, 266, 30, 267] = true := by decide +kernel
theorem dc_X0_placeAt_2 : decode (AM.bytes M_X0_placeAt) 2 = .ok (.invokevirtual 56, 3) := by decide +kernel
theorem g_X0_placeAt_5_3 : ab_oks M_X0_placeAt [(5, .iconst 1, 1, 0, 0, 0, .int (nI (1))), (6, .isub, 1, 0, 0, 0, .null), (7, .istore_n 3, 1, 3, 0, 0, .null)] = true := by decide +kernel
theorem g_X0_placeAt_8_1 : ab_oks M_X0_placeAt [(8, .iload_n 3, 1, 3, 0, 0, .null)] = true := by decide +kernel
theorem dc_X0_placeAt_9 : decode (AM.bytes M_X0_placeAt) 9 = .ok (.ifCond .lt 45, 3) := by decide +kernel
theorem g_X0_placeAt_54_1 : ab_oks M_X0_placeAt [(54, .iconst (-1), 1, 0, 0, 0, .int (-1))] = true := by decide +kernel
theorem dc_X0_placeAt_55 : decode (AM.bytes M_X0_placeAt) 55 = .ok (.ireturn, 1) := by decide +kernel
theorem g_X0_placeAt_12_4 : ab_oks M_X0_placeAt [(12, .aload_n 0, 1, 0, 0, 0, .null), (13, .getfield 29, 3, 0, 4, 93, .null), (16, .iload_n 3, 1, 3, 0, 0, .null), (17, .iconst 2, 1, 0, 0, 0, .int (nI (2)))] = true := by decide +kernel
theorem dc_X0_placeAt_18 : decode (AM.bytes M_X0_placeAt) 18 = .ok (.invokevirtual 45, 3) := by decide +kernel
theorem g_X0_placeAt_21_1 : ab_oks M_X0_placeAt [(21, .iload_n 1, 1, 1, 0, 0, .null)] = true := by decide +kernel
theorem dc_X0_placeAt_22 : decode (AM.bytes M_X0_placeAt) 22 = .ok (.if_icmp .ne 26, 3) := by decide +kernel
theorem g_X0_placeAt_48_2 : ab_oks M_X0_placeAt [(48, .iinc 3 (-1), 3, 3, 0, 0, .int (-1)), (51, .goto (-43), 3, 8, 0, 0, .null)] = true := by decide +kernel
theorem g_X0_placeAt_25_4 : ab_oks M_X0_placeAt [(25, .aload_n 0, 1, 0, 0, 0, .null), (26, .getfield 29, 3, 0, 4, 93, .null), (29, .iload_n 3, 1, 3, 0, 0, .null), (30, .iconst 0, 1, 0, 0, 0, .int (nI (0)))] = true := by decide +kernel
theorem dc_X0_placeAt_31 : decode (AM.bytes M_X0_placeAt) 31 = .ok (.invokevirtual 45, 3) := by decide +kernel
theorem g_X0_placeAt_34_1 : ab_oks M_X0_placeAt [(34, .iload_n 2, 1, 2, 0, 0, .null)] = true := by decide +kernel
theorem dc_X0_placeAt_35 : decode (AM.bytes M_X0_placeAt) 35 = .ok (.if_icmp .gt 13, 3) := by decide +kernel
theorem g_X0_placeAt_38_4 : ab_oks M_X0_placeAt [(38, .aload_n 0, 1, 0, 0, 0, .null), (39, .getfield 29, 3, 0, 4, 93, .null), (42, .iload_n 3, 1, 3, 0, 0, .null), (43, .iconst 3, 1, 0, 0, 0, .int (nI (3)))] = true := by decide +kernel
theorem dc_X0_placeAt_44 : decode (AM.bytes M_X0_placeAt) 44 = .ok (.invokevirtual 45, 3) := by decide +kernel
theorem dc_X0_placeAt_47 : decode (AM.bytes M_X0_placeAt) 47 = .ok (.ireturn, 1) := by decide +kernel
set_option maxRecDepth 100000 in
set_option maxHeartbeats 4000000 in
theorem s_0placeAt {E : AE} (d : Nat) (v : Int32) (m : Int32) {nv : Nat} {nc : Nat} {nr : Nat} {ne : Nat}  {o0 t0 p0 m0 u0 l0 : List AC} {T K : Nat → Nat → Int32} {os sc : Int32} (hT : TI T nv nc nr ne) : CT E M_X0_placeAt (d + 2) [.ref 4097, .int (v), .int (m)] (hp o0 (ar T K os sc) t0 p0 m0 u0 l0) (.inl (some (.int (W_0placeAt_8 v m T ne)))) (hp o0 (ar T K os sc) t0 p0 m0 u0 l0) 0 0 := by
  obtain ⟨⟨hnv, h12⟩, ⟨hnc, h4⟩, ⟨hnr, h3⟩, ⟨hne, h60⟩, hLT, hHT⟩ := id hT
  refine CT.of (L := [some (.ref 4097), some (.int (v)), some (.int (m)), none]) rfl rfl ?_
  refine AR.run g_X0_placeAt_0_2 2 [some (.ref 4097), some (.int (v)), some (.int (m)), none] [.int (nI (5)), .ref 4097] _ [] rfl trivial ?_
  refine AR.callV1 (4097) [.int (nI (5))] [] lk_0_56 dc_X0_placeAt_2 rfl rfl (s_0number _ 5 (by omega)) (by first | rfl | (simp only [nI_add, pk_mul]; first | done | rfl)) rfl ?_
  refine AR.top hT.2.2.2.1.1 ?_
  refine AR.run g_X0_placeAt_5_3 8 [some (.ref 4097), some (.int (v)), some (.int (m)), some (.int ((nI (ne)) - (nI (1))))] [] _ [] rfl trivial ?_
  have hW : ∀ (e8 : Nat), e8 ≤ ne → AR E M_X0_placeAt (d + 2) 8 [some (.ref 4097), some (.int (v)), some (.int (m)), some (.int (nI e8 - nI 1))] [] (hp o0 (ar T K os sc) t0 p0 m0 u0 l0) (.inl (some (.int (W_0placeAt_8 v m T e8 )))) (hp o0 (ar T K os sc) t0 p0 m0 u0 l0) 0 0 := by
    intro e8
    induction e8 with
    | zero => 
      intro  he8
      refine AR.run g_X0_placeAt_8_1 9 [some (.ref 4097), some (.int (v)), some (.int (m)), some (.int (nI 0 - nI 1))] [.int (nI 0 - nI 1)] _ [] rfl trivial ?_
      refine AR.lt (tgt := 54) dc_X0_placeAt_9 (by decide) (fun c9_1 => ?_) (fun c9_1 => absurd c9_1 (by decide))
      refine AR.run g_X0_placeAt_54_1 55 [some (.ref 4097), some (.int (v)), some (.int (m)), some (.int (nI 0 - nI 1))] [.int (-1)] _ [] rfl trivial ?_
      have e2 : W_0placeAt_8 v m T 0  = (-1) := by rw [W_0placeAt_8]
      rw [e2]
      exact AR.retI dc_X0_placeAt_55 rfl rfl rfl
    | succ e8 ih8 => 
      intro  he8
      refine AR.cast (L' := [some (.ref 4097), some (.int (v)), some (.int (m)), some (.int (nI (e8)))]) (by first | rw [nI_p1] | rfl) rfl rfl ?_
      refine AR.run g_X0_placeAt_8_1 9 [some (.ref 4097), some (.int (v)), some (.int (m)), some (.int (nI (e8)))] [.int (nI (e8))] _ [] rfl trivial ?_
      refine AR.ltN (tgt := 54) (a := e8) dc_X0_placeAt_9 (by decide) (by first | rfl | (simp only [nI_add, pk_mul]; first | done | rfl)) (by omega) (fun c9_3 => absurd c9_3 (fun q => q)) (fun c9_3 => ?_)
      refine AR.run g_X0_placeAt_12_4 18 [some (.ref 4097), some (.int (v)), some (.int (m)), some (.int (nI (e8)))] [.int (nI (2)), .int (nI (e8)), .ref 4110] _ [] rfl trivial ?_
      refine AR.callV1 (4110) [.int (nI (e8)), .int (nI (2))] [] lk_0_45 dc_X0_placeAt_18 rfl rfl (s_3atT4 _ e8 2 (by omega) (by omega)) (by first | rfl | (simp only [nI_add, pk_mul]; first | done | rfl)) rfl ?_
      refine AR.run g_X0_placeAt_21_1 22 [some (.ref 4097), some (.int (v)), some (.int (m)), some (.int (nI (e8)))] [.int (v), .int ((T 4) (e8 * 5 + 2))] _ [] rfl trivial ?_
      refine AR.ne2 (tgt := 48) dc_X0_placeAt_22 (by decide) (fun c22_4 => ?_) (fun c22_4 => ?_)
      · refine AR.run g_X0_placeAt_48_2 8 [some (.ref 4097), some (.int (v)), some (.int (m)), some (.int ((nI (e8)) + (-1)))] [] _ [] rfl trivial ?_
        have e5 : W_0placeAt_8 v m T (e8 + 1)  = W_0placeAt_8 v m T e8  := by rw [W_0placeAt_8, if_neg c22_4]
        rw [e5]
        exact AR.cast (L' := [some (.ref 4097), some (.int (v)), some (.int (m)), some (.int (nI e8 - nI 1))]) (by first | rw [i_m1] | rfl) rfl rfl (ih8  (by omega))
      · refine AR.run g_X0_placeAt_25_4 31 [some (.ref 4097), some (.int (v)), some (.int (m)), some (.int (nI (e8)))] [.int (nI (0)), .int (nI (e8)), .ref 4110] _ [] rfl trivial ?_
        refine AR.callV1 (4110) [.int (nI (e8)), .int (nI (0))] [] lk_0_45 dc_X0_placeAt_31 rfl rfl (s_3atT4 _ e8 0 (by omega) (by omega)) (by first | rfl | (simp only [nI_add, pk_mul]; first | done | rfl)) rfl ?_
        refine AR.run g_X0_placeAt_34_1 35 [some (.ref 4097), some (.int (v)), some (.int (m)), some (.int (nI (e8)))] [.int (m), .int ((T 4) (e8 * 5 + 0))] _ [] rfl trivial ?_
        refine AR.gt2 (tgt := 48) dc_X0_placeAt_35 (by decide) (fun c35_6 => ?_) (fun c35_6 => ?_)
        · refine AR.run g_X0_placeAt_48_2 8 [some (.ref 4097), some (.int (v)), some (.int (m)), some (.int ((nI (e8)) + (-1)))] [] _ [] rfl trivial ?_
          have e7 : W_0placeAt_8 v m T (e8 + 1)  = W_0placeAt_8 v m T e8  := by rw [W_0placeAt_8, if_pos c22_4, if_pos c35_6]
          rw [e7]
          exact AR.cast (L' := [some (.ref 4097), some (.int (v)), some (.int (m)), some (.int (nI e8 - nI 1))]) (by first | rw [i_m1] | rfl) rfl rfl (ih8  (by omega))
        · refine AR.run g_X0_placeAt_38_4 44 [some (.ref 4097), some (.int (v)), some (.int (m)), some (.int (nI (e8)))] [.int (nI (3)), .int (nI (e8)), .ref 4110] _ [] rfl trivial ?_
          refine AR.callV1 (4110) [.int (nI (e8)), .int (nI (3))] [] lk_0_45 dc_X0_placeAt_44 rfl rfl (s_3atT4 _ e8 3 (by omega) (by omega)) (by first | rfl | (simp only [nI_add, pk_mul]; first | done | rfl)) rfl ?_
          have e8 : W_0placeAt_8 v m T (e8 + 1)  = ((T 4) (e8 * 5 + 3)) := by rw [W_0placeAt_8, if_pos c22_4, if_neg c35_6]
          rw [e8]
          exact AR.retI dc_X0_placeAt_47 rfl rfl rfl
  exact AR.end' (by first | rfl | (simp only [id])) (by first | rfl | (simp only [id])) (AR.cast rfl rfl rfl (hW ne  (Nat.le_refl _)))
theorem g_X0_minutesOfWay_0_4 : ab_oks M_X0_minutesOfWay [(0, .aload_n 0, 1, 0, 0, 0, .null), (1, .getfield 26, 3, 0, 3, 92, .null), (4, .iload_n 2, 1, 2, 0, 0, .null), (5, .iconst 0, 1, 0, 0, 0, .int (nI (0)))] = true := by decide +kernel
theorem dc_X0_minutesOfWay_6 : decode (AM.bytes M_X0_minutesOfWay) 6 = .ok (.invokevirtual 45, 3) := by decide +kernel
theorem g_X0_minutesOfWay_9_4 : ab_oks M_X0_minutesOfWay [(9, .aload_n 0, 1, 0, 0, 0, .null), (10, .getfield 14, 3, 0, 0, 89, .null), (13, .iload_n 1, 1, 1, 0, 0, .null), (14, .iconst 0, 1, 0, 0, 0, .int (nI (0)))] = true := by decide +kernel
theorem dc_X0_minutesOfWay_15 : decode (AM.bytes M_X0_minutesOfWay) 15 = .ok (.invokevirtual 45, 3) := by decide +kernel
theorem g_X0_minutesOfWay_18_5 : ab_oks M_X0_minutesOfWay [(18, .isub, 1, 0, 0, 0, .null), (19, .invokestatic 102, 3, 3, 0, 502, .null), (22, .istore_n 3, 1, 3, 0, 0, .null), (23, .aload_n 0, 1, 0, 0, 0, .null), (24, .bipush 10, 2, 0, 0, 0, .int (nI (10)))] = true := by decide +kernel
theorem dc_X0_minutesOfWay_26 : decode (AM.bytes M_X0_minutesOfWay) 26 = .ok (.invokevirtual 56, 3) := by decide +kernel
theorem g_X0_minutesOfWay_29_4 : ab_oks M_X0_minutesOfWay [(29, .iload_n 3, 1, 3, 0, 0, .null), (30, .imul, 1, 0, 0, 0, .null), (31, .iconst 1, 1, 0, 0, 0, .int (nI (1))), (32, .iadd, 1, 0, 0, 0, .null)] = true := by decide +kernel
theorem dc_X0_minutesOfWay_33 : decode (AM.bytes M_X0_minutesOfWay) 33 = .ok (.ireturn, 1) := by decide +kernel
set_option maxRecDepth 100000 in
set_option maxHeartbeats 4000000 in
theorem s_0minutesOfWay {E : AE} (d : Nat) (v : Nat) (r : Nat)  {o0 t0 p0 m0 u0 l0 : List AC} {T K : Nat → Nat → Int32} {os sc : Int32} (hv : v < 13) (hr : r < 3) : CT E M_X0_minutesOfWay (d + 2) [.ref 4097, .int (nI (v)), .int (nI (r))] (hp o0 (ar T K os sc) t0 p0 m0 u0 l0) (.inl (some (.int ((((T 5) 10) * (if 0 ≤ (((T 3) (r * 4 + 0)) - ((T 0) (v * 7 + 0))) then (((T 3) (r * 4 + 0)) - ((T 0) (v * 7 + 0))) else 0 - (((T 3) (r * 4 + 0)) - ((T 0) (v * 7 + 0))))) + (nI (1)))))) (hp o0 (ar T K os sc) t0 p0 m0 u0 l0) 0 0 := by
  refine CT.of (L := [some (.ref 4097), some (.int (nI (v))), some (.int (nI (r))), none]) rfl rfl ?_
  refine AR.run g_X0_minutesOfWay_0_4 6 [some (.ref 4097), some (.int (nI (v))), some (.int (nI (r))), none] [.int (nI (0)), .int (nI (r)), .ref 4107] _ [] rfl trivial ?_
  refine AR.callV1 (4107) [.int (nI (r)), .int (nI (0))] [] lk_0_45 dc_X0_minutesOfWay_6 rfl rfl (s_3atT3 _ r 0 (by omega) (by omega)) (by first | rfl | (simp only [nI_add, pk_mul]; first | done | rfl)) rfl ?_
  refine AR.run g_X0_minutesOfWay_9_4 15 [some (.ref 4097), some (.int (nI (v))), some (.int (nI (r))), none] [.int (nI (0)), .int (nI (v)), .ref 4098, .int ((T 3) (r * 4 + 0))] _ [] rfl trivial ?_
  refine AR.callV1 (4098) [.int (nI (v)), .int (nI (0))] [.int ((T 3) (r * 4 + 0))] lk_0_45 dc_X0_minutesOfWay_15 rfl rfl (s_3atT0 _ v 0 (by omega) (by omega)) (by first | rfl | (simp only [nI_add, pk_mul]; first | done | rfl)) rfl ?_
  refine AR.run g_X0_minutesOfWay_18_5 26 [some (.ref 4097), some (.int (nI (v))), some (.int (nI (r))), some (.int (if 0 ≤ (((T 3) (r * 4 + 0)) - ((T 0) (v * 7 + 0))) then (((T 3) (r * 4 + 0)) - ((T 0) (v * 7 + 0))) else 0 - (((T 3) (r * 4 + 0)) - ((T 0) (v * 7 + 0)))))] [.int (nI (10)), .ref 4097] _ [] rfl trivial ?_
  refine AR.callV1 (4097) [.int (nI (10))] [] lk_0_56 dc_X0_minutesOfWay_26 rfl rfl (s_0number _ 10 (by omega)) (by first | rfl | (simp only [nI_add, pk_mul]; first | done | rfl)) rfl ?_
  refine AR.run g_X0_minutesOfWay_29_4 33 [some (.ref 4097), some (.int (nI (v))), some (.int (nI (r))), some (.int (if 0 ≤ (((T 3) (r * 4 + 0)) - ((T 0) (v * 7 + 0))) then (((T 3) (r * 4 + 0)) - ((T 0) (v * 7 + 0))) else 0 - (((T 3) (r * 4 + 0)) - ((T 0) (v * 7 + 0)))))] [.int ((((T 5) 10) * (if 0 ≤ (((T 3) (r * 4 + 0)) - ((T 0) (v * 7 + 0))) then (((T 3) (r * 4 + 0)) - ((T 0) (v * 7 + 0))) else 0 - (((T 3) (r * 4 + 0)) - ((T 0) (v * 7 + 0))))) + (nI (1)))] _ [] rfl trivial ?_
  exact AR.retI dc_X0_minutesOfWay_33 rfl rfl rfl
def B_0quickestCarrier_7 (v : Nat) (T : Nat → Nat → Int32) (j7 : Nat) (x7_2 : Int32) (x7_3 : Int32) : (Int32) × (Int32) := if ((T 3) (j7 * 4 + 1)) = 0 then if x7_2 = (-1) then (nI (j7), (((T 5) 10) * (if 0 ≤ (((T 3) (j7 * 4 + 0)) - ((T 0) (v * 7 + 0))) then (((T 3) (j7 * 4 + 0)) - ((T 0) (v * 7 + 0))) else 0 - (((T 3) (j7 * 4 + 0)) - ((T 0) (v * 7 + 0))))) + (nI (1))) else if x7_3 ≤ ((((T 5) 10) * (if 0 ≤ (((T 3) (j7 * 4 + 0)) - ((T 0) (v * 7 + 0))) then (((T 3) (j7 * 4 + 0)) - ((T 0) (v * 7 + 0))) else 0 - (((T 3) (j7 * 4 + 0)) - ((T 0) (v * 7 + 0))))) + (nI (1))) then (x7_2, x7_3) else (nI (j7), (((T 5) 10) * (if 0 ≤ (((T 3) (j7 * 4 + 0)) - ((T 0) (v * 7 + 0))) then (((T 3) (j7 * 4 + 0)) - ((T 0) (v * 7 + 0))) else 0 - (((T 3) (j7 * 4 + 0)) - ((T 0) (v * 7 + 0))))) + (nI (1))) else (x7_2, x7_3)
def L_0quickestCarrier_7 (v : Nat) (T : Nat → Nat → Int32) : Nat → (Int32) × (Int32)
  | 0 => (-1, nI (0))
  | j + 1 => B_0quickestCarrier_7 v T j ((L_0quickestCarrier_7 v T  j).1) ((L_0quickestCarrier_7 v T  j).2)
theorem g_X0_quickestCarrier_0_6 : ab_oks M_X0_quickestCarrier [(0, .iconst (-1), 1, 0, 0, 0, .int (-1)), (1, .istore_n 2, 1, 2, 0, 0, .null), (2, .iconst 0, 1, 0, 0, 0, .int (nI (0))), (3, .istore_n 3, 1, 3, 0, 0, .null), (4, .iconst 0, 1, 0, 0, 0, .int (nI (0))), (5, .istore 4, 2, 4, 0, 0, .null)] = true := by decide +kernel
theorem g_X0_quickestCarrier_7_3 : ab_oks M_X0_quickestCarrier [(7, .iload 4, 2, 4, 0, 0, .null), (9, .aload_n 0, 1, 0, 0, 0, .null), (10, .iconst 2, 1, 0, 0, 0, .int (nI (2)))] = true := by decide +kernel
theorem dc_X0_quickestCarrier_11 : decode (AM.bytes M_X0_quickestCarrier) 11 = .ok (.invokevirtual 56, 3) := by decide +kernel
theorem dc_X0_quickestCarrier_14 : decode (AM.bytes M_X0_quickestCarrier) 14 = .ok (.if_icmp .ge 48, 3) := by decide +kernel
theorem g_X0_quickestCarrier_17_3 : ab_oks M_X0_quickestCarrier [(17, .aload_n 0, 1, 0, 0, 0, .null), (18, .iload_n 1, 1, 1, 0, 0, .null), (19, .iload 4, 2, 4, 0, 0, .null)] = true := by decide +kernel
theorem lk_0_107 : ab_lkV "LeafCradles$Archive" 107 M_X0_minutesOfWay 2 [498, 500, 15, 30, 501] = true := by decide +kernel
theorem dc_X0_quickestCarrier_21 : decode (AM.bytes M_X0_quickestCarrier) 21 = .ok (.invokevirtual 107, 3) := by decide +kernel
theorem g_X0_quickestCarrier_24_5 : ab_oks M_X0_quickestCarrier [(24, .istore 5, 2, 5, 0, 0, .null), (26, .aload_n 0, 1, 0, 0, 0, .null), (27, .getfield 26, 3, 0, 3, 92, .null), (30, .iload 4, 2, 4, 0, 0, .null), (32, .iconst 1, 1, 0, 0, 0, .int (nI (1)))] = true := by decide +kernel
theorem dc_X0_quickestCarrier_33 : decode (AM.bytes M_X0_quickestCarrier) 33 = .ok (.invokevirtual 45, 3) := by decide +kernel
theorem dc_X0_quickestCarrier_36 : decode (AM.bytes M_X0_quickestCarrier) 36 = .ok (.ifCond .ne 20, 3) := by decide +kernel
theorem g_X0_quickestCarrier_56_2 : ab_oks M_X0_quickestCarrier [(56, .iinc 4 1, 3, 4, 0, 0, .int (nI (1))), (59, .goto (-52), 3, 7, 0, 0, .null)] = true := by decide +kernel
theorem g_X0_quickestCarrier_39_2 : ab_oks M_X0_quickestCarrier [(39, .iload_n 2, 1, 2, 0, 0, .null), (40, .iconst (-1), 1, 0, 0, 0, .int (-1))] = true := by decide +kernel
theorem dc_X0_quickestCarrier_41 : decode (AM.bytes M_X0_quickestCarrier) 41 = .ok (.if_icmp .eq 9, 3) := by decide +kernel
theorem g_X0_quickestCarrier_50_6 : ab_oks M_X0_quickestCarrier [(50, .iload 4, 2, 4, 0, 0, .null), (52, .istore_n 2, 1, 2, 0, 0, .null), (53, .iload 5, 2, 5, 0, 0, .null), (55, .istore_n 3, 1, 3, 0, 0, .null), (56, .iinc 4 1, 3, 4, 0, 0, .int (nI (1))), (59, .goto (-52), 3, 7, 0, 0, .null)] = true := by decide +kernel
theorem g_X0_quickestCarrier_44_2 : ab_oks M_X0_quickestCarrier [(44, .iload 5, 2, 5, 0, 0, .null), (46, .iload_n 3, 1, 3, 0, 0, .null)] = true := by decide +kernel
theorem dc_X0_quickestCarrier_47 : decode (AM.bytes M_X0_quickestCarrier) 47 = .ok (.if_icmp .ge 9, 3) := by decide +kernel
theorem g_X0_quickestCarrier_62_1 : ab_oks M_X0_quickestCarrier [(62, .iload_n 2, 1, 2, 0, 0, .null)] = true := by decide +kernel
theorem dc_X0_quickestCarrier_63 : decode (AM.bytes M_X0_quickestCarrier) 63 = .ok (.ireturn, 1) := by decide +kernel
set_option maxRecDepth 100000 in
set_option maxHeartbeats 4000000 in
theorem s_0quickestCarrier {E : AE} (d : Nat) (v : Nat) {nv : Nat} {nc : Nat} {nr : Nat} {ne : Nat}  {o0 t0 p0 m0 u0 l0 : List AC} {T K : Nat → Nat → Int32} {os sc : Int32} (hT : TI T nv nc nr ne) (hv : v < nv) : CT E M_X0_quickestCarrier (d + 3) [.ref 4097, .int (nI (v))] (hp o0 (ar T K os sc) t0 p0 m0 u0 l0) (.inl (some (.int ((L_0quickestCarrier_7 v T nr).1)))) (hp o0 (ar T K os sc) t0 p0 m0 u0 l0) 0 0 := by
  obtain ⟨⟨hnv, h12⟩, ⟨hnc, h4⟩, ⟨hnr, h3⟩, ⟨hne, h60⟩, hLT, hHT⟩ := id hT
  refine CT.of (L := [some (.ref 4097), some (.int (nI (v))), none, none, none, none]) rfl rfl ?_
  refine AR.run g_X0_quickestCarrier_0_6 7 [some (.ref 4097), some (.int (nI (v))), some (.int (-1)), some (.int (nI (0))), some (.int (nI (0))), none] [] _ [] rfl trivial ?_
  refine AR.cast (L' := [some (.ref 4097), some (.int (nI (v))), some (.int ((L_0quickestCarrier_7 v T 0).1)), some (.int ((L_0quickestCarrier_7 v T 0).2)), some (.int (nI (0))), none]) (by first | rfl | (rw [L_0quickestCarrier_7])) rfl rfl (AR.loopN nr (fun j7 => [some (.ref 4097), some (.int (nI (v))), some (.int ((L_0quickestCarrier_7 v T j7).1)), some (.int ((L_0quickestCarrier_7 v T j7).2)), some (.int (nI (j7))), none]) (fun j7 => (hp o0 (ar T K os sc) t0 p0 m0 u0 l0)) (fun j7 => True) (fun j7 hj7 hI7 ih7 => ?_) (fun hI7 => ?_) 0 (by omega) (by first | trivial | omega))
  · refine AR.run g_X0_quickestCarrier_7_3 11 [some (.ref 4097), some (.int (nI (v))), some (.int ((L_0quickestCarrier_7 v T j7).1)), some (.int ((L_0quickestCarrier_7 v T j7).2)), some (.int (nI (j7))), none] [.int (nI (2)), .ref 4097, .int (nI (j7))] _ [] rfl trivial ?_
    refine AR.callV1 (4097) [.int (nI (2))] [.int (nI (j7))] lk_0_56 dc_X0_quickestCarrier_11 rfl rfl (s_0number _ 2 (by omega)) (by first | rfl | (simp only [nI_add, pk_mul]; first | done | rfl)) rfl ?_
    refine AR.top hT.2.2.1.1 ?_
    refine AR.ge2N (tgt := 62) (a := j7) (b := nr) dc_X0_quickestCarrier_14 (by decide) (by first | rfl | (simp only [nI_add, pk_mul]; first | done | rfl)) (by first | rfl | (simp only [nI_add, pk_mul]; first | done | rfl)) (by omega) (by omega) (fun c14_1 => absurd c14_1 (by omega)) (fun c14_1 => ?_)
    refine AR.run g_X0_quickestCarrier_17_3 21 [some (.ref 4097), some (.int (nI (v))), some (.int ((L_0quickestCarrier_7 v T j7).1)), some (.int ((L_0quickestCarrier_7 v T j7).2)), some (.int (nI (j7))), none] [.int (nI (j7)), .int (nI (v)), .ref 4097] _ [] rfl trivial ?_
    refine AR.callV1 (4097) [.int (nI (v)), .int (nI (j7))] [] lk_0_107 dc_X0_quickestCarrier_21 rfl rfl (s_0minutesOfWay _ v j7 (by omega) (by omega)) (by first | rfl | (simp only [nI_add, pk_mul]; first | done | rfl)) rfl ?_
    refine AR.run g_X0_quickestCarrier_24_5 33 [some (.ref 4097), some (.int (nI (v))), some (.int ((L_0quickestCarrier_7 v T j7).1)), some (.int ((L_0quickestCarrier_7 v T j7).2)), some (.int (nI (j7))), some (.int ((((T 5) 10) * (if 0 ≤ (((T 3) (j7 * 4 + 0)) - ((T 0) (v * 7 + 0))) then (((T 3) (j7 * 4 + 0)) - ((T 0) (v * 7 + 0))) else 0 - (((T 3) (j7 * 4 + 0)) - ((T 0) (v * 7 + 0))))) + (nI (1))))] [.int (nI (1)), .int (nI (j7)), .ref 4107] _ [] rfl trivial ?_
    refine AR.callV1 (4107) [.int (nI (j7)), .int (nI (1))] [] lk_0_45 dc_X0_quickestCarrier_33 rfl rfl (s_3atT3 _ j7 1 (by omega) (by omega)) (by first | rfl | (simp only [nI_add, pk_mul]; first | done | rfl)) rfl ?_
    refine AR.ne (tgt := 56) dc_X0_quickestCarrier_36 (by decide) (fun c36_2 => ?_) (fun c36_2 => ?_)
    · refine AR.run g_X0_quickestCarrier_56_2 7 [some (.ref 4097), some (.int (nI (v))), some (.int ((L_0quickestCarrier_7 v T j7).1)), some (.int ((L_0quickestCarrier_7 v T j7).2)), some (.int ((nI (j7)) + (nI (1)))), some (.int ((((T 5) 10) * (if 0 ≤ (((T 3) (j7 * 4 + 0)) - ((T 0) (v * 7 + 0))) then (((T 3) (j7 * 4 + 0)) - ((T 0) (v * 7 + 0))) else 0 - (((T 3) (j7 * 4 + 0)) - ((T 0) (v * 7 + 0))))) + (nI (1))))] [] _ [] rfl trivial ?_
      refine AR.drop (L' := [some (.ref 4097), some (.int (nI (v))), some (.int ((L_0quickestCarrier_7 v T j7).1)), some (.int ((L_0quickestCarrier_7 v T j7).2)), some (.int ((nI (j7)) + (nI (1)))), none]) ⟨rfl, rfl, rfl, rfl, rfl, trivial⟩ ?_
      have e3 : L_0quickestCarrier_7 v T (j7 + 1) = ((L_0quickestCarrier_7 v T j7).1, (L_0quickestCarrier_7 v T j7).2) := by rw [L_0quickestCarrier_7, B_0quickestCarrier_7, if_neg c36_2]
      exact AR.cast (L' := [some (.ref 4097), some (.int (nI (v))), some (.int ((L_0quickestCarrier_7 v T (j7 + 1)).1)), some (.int ((L_0quickestCarrier_7 v T (j7 + 1)).2)), some (.int (nI (j7 + 1))), none]) (by rw [e3, nI_add]) rfl rfl (ih7 (by first | trivial | omega))
    · refine AR.run g_X0_quickestCarrier_39_2 41 [some (.ref 4097), some (.int (nI (v))), some (.int ((L_0quickestCarrier_7 v T j7).1)), some (.int ((L_0quickestCarrier_7 v T j7).2)), some (.int (nI (j7))), some (.int ((((T 5) 10) * (if 0 ≤ (((T 3) (j7 * 4 + 0)) - ((T 0) (v * 7 + 0))) then (((T 3) (j7 * 4 + 0)) - ((T 0) (v * 7 + 0))) else 0 - (((T 3) (j7 * 4 + 0)) - ((T 0) (v * 7 + 0))))) + (nI (1))))] [.int (-1), .int ((L_0quickestCarrier_7 v T j7).1)] _ [] rfl trivial ?_
      refine AR.eq2 (tgt := 50) dc_X0_quickestCarrier_41 (by decide) (fun c41_4 => ?_) (fun c41_4 => ?_)
      · refine AR.run g_X0_quickestCarrier_50_6 7 [some (.ref 4097), some (.int (nI (v))), some (.int (nI (j7))), some (.int ((((T 5) 10) * (if 0 ≤ (((T 3) (j7 * 4 + 0)) - ((T 0) (v * 7 + 0))) then (((T 3) (j7 * 4 + 0)) - ((T 0) (v * 7 + 0))) else 0 - (((T 3) (j7 * 4 + 0)) - ((T 0) (v * 7 + 0))))) + (nI (1)))), some (.int ((nI (j7)) + (nI (1)))), some (.int ((((T 5) 10) * (if 0 ≤ (((T 3) (j7 * 4 + 0)) - ((T 0) (v * 7 + 0))) then (((T 3) (j7 * 4 + 0)) - ((T 0) (v * 7 + 0))) else 0 - (((T 3) (j7 * 4 + 0)) - ((T 0) (v * 7 + 0))))) + (nI (1))))] [] _ [] rfl trivial ?_
        refine AR.drop (L' := [some (.ref 4097), some (.int (nI (v))), some (.int (nI (j7))), some (.int ((((T 5) 10) * (if 0 ≤ (((T 3) (j7 * 4 + 0)) - ((T 0) (v * 7 + 0))) then (((T 3) (j7 * 4 + 0)) - ((T 0) (v * 7 + 0))) else 0 - (((T 3) (j7 * 4 + 0)) - ((T 0) (v * 7 + 0))))) + (nI (1)))), some (.int ((nI (j7)) + (nI (1)))), none]) ⟨rfl, rfl, rfl, rfl, rfl, trivial⟩ ?_
        have e5 : L_0quickestCarrier_7 v T (j7 + 1) = (nI (j7), (((T 5) 10) * (if 0 ≤ (((T 3) (j7 * 4 + 0)) - ((T 0) (v * 7 + 0))) then (((T 3) (j7 * 4 + 0)) - ((T 0) (v * 7 + 0))) else 0 - (((T 3) (j7 * 4 + 0)) - ((T 0) (v * 7 + 0))))) + (nI (1))) := by rw [L_0quickestCarrier_7, B_0quickestCarrier_7, if_pos c36_2, if_pos c41_4]
        exact AR.cast (L' := [some (.ref 4097), some (.int (nI (v))), some (.int ((L_0quickestCarrier_7 v T (j7 + 1)).1)), some (.int ((L_0quickestCarrier_7 v T (j7 + 1)).2)), some (.int (nI (j7 + 1))), none]) (by rw [e5, nI_add]) rfl rfl (ih7 (by first | trivial | omega))
      · refine AR.run g_X0_quickestCarrier_44_2 47 [some (.ref 4097), some (.int (nI (v))), some (.int ((L_0quickestCarrier_7 v T j7).1)), some (.int ((L_0quickestCarrier_7 v T j7).2)), some (.int (nI (j7))), some (.int ((((T 5) 10) * (if 0 ≤ (((T 3) (j7 * 4 + 0)) - ((T 0) (v * 7 + 0))) then (((T 3) (j7 * 4 + 0)) - ((T 0) (v * 7 + 0))) else 0 - (((T 3) (j7 * 4 + 0)) - ((T 0) (v * 7 + 0))))) + (nI (1))))] [.int ((L_0quickestCarrier_7 v T j7).2), .int ((((T 5) 10) * (if 0 ≤ (((T 3) (j7 * 4 + 0)) - ((T 0) (v * 7 + 0))) then (((T 3) (j7 * 4 + 0)) - ((T 0) (v * 7 + 0))) else 0 - (((T 3) (j7 * 4 + 0)) - ((T 0) (v * 7 + 0))))) + (nI (1)))] _ [] rfl trivial ?_
        refine AR.ge2 (tgt := 56) dc_X0_quickestCarrier_47 (by decide) (fun c47_6 => ?_) (fun c47_6 => ?_)
        · refine AR.run g_X0_quickestCarrier_56_2 7 [some (.ref 4097), some (.int (nI (v))), some (.int ((L_0quickestCarrier_7 v T j7).1)), some (.int ((L_0quickestCarrier_7 v T j7).2)), some (.int ((nI (j7)) + (nI (1)))), some (.int ((((T 5) 10) * (if 0 ≤ (((T 3) (j7 * 4 + 0)) - ((T 0) (v * 7 + 0))) then (((T 3) (j7 * 4 + 0)) - ((T 0) (v * 7 + 0))) else 0 - (((T 3) (j7 * 4 + 0)) - ((T 0) (v * 7 + 0))))) + (nI (1))))] [] _ [] rfl trivial ?_
          refine AR.drop (L' := [some (.ref 4097), some (.int (nI (v))), some (.int ((L_0quickestCarrier_7 v T j7).1)), some (.int ((L_0quickestCarrier_7 v T j7).2)), some (.int ((nI (j7)) + (nI (1)))), none]) ⟨rfl, rfl, rfl, rfl, rfl, trivial⟩ ?_
          have e7 : L_0quickestCarrier_7 v T (j7 + 1) = ((L_0quickestCarrier_7 v T j7).1, (L_0quickestCarrier_7 v T j7).2) := by rw [L_0quickestCarrier_7, B_0quickestCarrier_7, if_pos c36_2, if_neg c41_4, if_pos c47_6]
          exact AR.cast (L' := [some (.ref 4097), some (.int (nI (v))), some (.int ((L_0quickestCarrier_7 v T (j7 + 1)).1)), some (.int ((L_0quickestCarrier_7 v T (j7 + 1)).2)), some (.int (nI (j7 + 1))), none]) (by rw [e7, nI_add]) rfl rfl (ih7 (by first | trivial | omega))
        · refine AR.run g_X0_quickestCarrier_50_6 7 [some (.ref 4097), some (.int (nI (v))), some (.int (nI (j7))), some (.int ((((T 5) 10) * (if 0 ≤ (((T 3) (j7 * 4 + 0)) - ((T 0) (v * 7 + 0))) then (((T 3) (j7 * 4 + 0)) - ((T 0) (v * 7 + 0))) else 0 - (((T 3) (j7 * 4 + 0)) - ((T 0) (v * 7 + 0))))) + (nI (1)))), some (.int ((nI (j7)) + (nI (1)))), some (.int ((((T 5) 10) * (if 0 ≤ (((T 3) (j7 * 4 + 0)) - ((T 0) (v * 7 + 0))) then (((T 3) (j7 * 4 + 0)) - ((T 0) (v * 7 + 0))) else 0 - (((T 3) (j7 * 4 + 0)) - ((T 0) (v * 7 + 0))))) + (nI (1))))] [] _ [] rfl trivial ?_
          refine AR.drop (L' := [some (.ref 4097), some (.int (nI (v))), some (.int (nI (j7))), some (.int ((((T 5) 10) * (if 0 ≤ (((T 3) (j7 * 4 + 0)) - ((T 0) (v * 7 + 0))) then (((T 3) (j7 * 4 + 0)) - ((T 0) (v * 7 + 0))) else 0 - (((T 3) (j7 * 4 + 0)) - ((T 0) (v * 7 + 0))))) + (nI (1)))), some (.int ((nI (j7)) + (nI (1)))), none]) ⟨rfl, rfl, rfl, rfl, rfl, trivial⟩ ?_
          have e8 : L_0quickestCarrier_7 v T (j7 + 1) = (nI (j7), (((T 5) 10) * (if 0 ≤ (((T 3) (j7 * 4 + 0)) - ((T 0) (v * 7 + 0))) then (((T 3) (j7 * 4 + 0)) - ((T 0) (v * 7 + 0))) else 0 - (((T 3) (j7 * 4 + 0)) - ((T 0) (v * 7 + 0))))) + (nI (1))) := by rw [L_0quickestCarrier_7, B_0quickestCarrier_7, if_pos c36_2, if_neg c41_4, if_neg c47_6]
          exact AR.cast (L' := [some (.ref 4097), some (.int (nI (v))), some (.int ((L_0quickestCarrier_7 v T (j7 + 1)).1)), some (.int ((L_0quickestCarrier_7 v T (j7 + 1)).2)), some (.int (nI (j7 + 1))), none]) (by rw [e8, nI_add]) rfl rfl (ih7 (by first | trivial | omega))
  · refine AR.run g_X0_quickestCarrier_7_3 11 [some (.ref 4097), some (.int (nI (v))), some (.int ((L_0quickestCarrier_7 v T nr).1)), some (.int ((L_0quickestCarrier_7 v T nr).2)), some (.int (nI (nr))), none] [.int (nI (2)), .ref 4097, .int (nI (nr))] _ [] rfl trivial ?_
    refine AR.callV1 (4097) [.int (nI (2))] [.int (nI (nr))] lk_0_56 dc_X0_quickestCarrier_11 rfl rfl (s_0number _ 2 (by omega)) (by first | rfl | (simp only [nI_add, pk_mul]; first | done | rfl)) rfl ?_
    refine AR.top hT.2.2.1.1 ?_
    refine AR.ge2N (tgt := 62) (a := nr) (b := nr) dc_X0_quickestCarrier_14 (by decide) (by first | rfl | (simp only [nI_add, pk_mul]; first | done | rfl)) (by first | rfl | (simp only [nI_add, pk_mul]; first | done | rfl)) (by omega) (by omega) (fun c14_9 => ?_) (fun c14_9 => absurd c14_9 (by omega))
    refine AR.run g_X0_quickestCarrier_62_1 63 [some (.ref 4097), some (.int (nI (v))), some (.int ((L_0quickestCarrier_7 v T nr).1)), some (.int ((L_0quickestCarrier_7 v T nr).2)), some (.int (nI (nr))), none] [.int ((L_0quickestCarrier_7 v T nr).1)] _ [] rfl trivial ?_
    exact AR.retI dc_X0_quickestCarrier_63 rfl rfl rfl
def B_0sumOverVolumes_4 (w : Nat) (T : Nat → Nat → Int32) (j4 : Nat) (x4_2 : Int32) : (Int32) := (x4_2 + (F_0volumeFact j4 w T))
def L_0sumOverVolumes_4 (w : Nat) (T : Nat → Nat → Int32) : Nat → (Int32)
  | 0 => nI (0)
  | j + 1 => B_0sumOverVolumes_4 w T j (L_0sumOverVolumes_4 w T  j)
theorem g_X0_sumOverVolumes_0_4 : ab_oks M_X0_sumOverVolumes [(0, .iconst 0, 1, 0, 0, 0, .int (nI (0))), (1, .istore_n 2, 1, 2, 0, 0, .null), (2, .iconst 0, 1, 0, 0, 0, .int (nI (0))), (3, .istore_n 3, 1, 3, 0, 0, .null)] = true := by decide +kernel
theorem g_X0_sumOverVolumes_4_3 : ab_oks M_X0_sumOverVolumes [(4, .iload_n 3, 1, 3, 0, 0, .null), (5, .aload_n 0, 1, 0, 0, 0, .null), (6, .iconst 0, 1, 0, 0, 0, .int (nI (0)))] = true := by decide +kernel
theorem dc_X0_sumOverVolumes_7 : decode (AM.bytes M_X0_sumOverVolumes) 7 = .ok (.invokevirtual 56, 3) := by decide +kernel
theorem dc_X0_sumOverVolumes_10 : decode (AM.bytes M_X0_sumOverVolumes) 10 = .ok (.if_icmp .ge 18, 3) := by decide +kernel
theorem g_X0_sumOverVolumes_13_4 : ab_oks M_X0_sumOverVolumes [(13, .iload_n 2, 1, 2, 0, 0, .null), (14, .aload_n 0, 1, 0, 0, 0, .null), (15, .iload_n 3, 1, 3, 0, 0, .null), (16, .iload_n 1, 1, 1, 0, 0, .null)] = true := by decide +kernel
theorem lk_0_89 : ab_lkV "LeafCradles$Archive" 89 M_X0_volumeFact 2 [272, 273, 274, 30, 275] = true := by decide +kernel
theorem dc_X0_sumOverVolumes_17 : decode (AM.bytes M_X0_sumOverVolumes) 17 = .ok (.invokevirtual 89, 3) := by decide +kernel
theorem g_X0_sumOverVolumes_20_4 : ab_oks M_X0_sumOverVolumes [(20, .iadd, 1, 0, 0, 0, .null), (21, .istore_n 2, 1, 2, 0, 0, .null), (22, .iinc 3 1, 3, 3, 0, 0, .int (nI (1))), (25, .goto (-21), 3, 4, 0, 0, .null)] = true := by decide +kernel
theorem g_X0_sumOverVolumes_28_1 : ab_oks M_X0_sumOverVolumes [(28, .iload_n 2, 1, 2, 0, 0, .null)] = true := by decide +kernel
theorem dc_X0_sumOverVolumes_29 : decode (AM.bytes M_X0_sumOverVolumes) 29 = .ok (.ireturn, 1) := by decide +kernel
set_option maxRecDepth 100000 in
set_option maxHeartbeats 4000000 in
theorem s_0sumOverVolumes {E : AE} (d : Nat) (w : Nat) {nv : Nat} {nc : Nat} {nr : Nat} {ne : Nat}  {o0 t0 p0 m0 u0 l0 : List AC} {T K : Nat → Nat → Int32} {os sc : Int32} (hT : TI T nv nc nr ne) (hw : w < 12) : CT E M_X0_sumOverVolumes (d + 4) [.ref 4097, .int (nI (w))] (hp o0 (ar T K os sc) t0 p0 m0 u0 l0) (.inl (some (.int (L_0sumOverVolumes_4 w T nv)))) (hp o0 (ar T K os sc) t0 p0 m0 u0 l0) 0 0 := by
  obtain ⟨⟨hnv, h12⟩, ⟨hnc, h4⟩, ⟨hnr, h3⟩, ⟨hne, h60⟩, hLT, hHT⟩ := id hT
  refine CT.of (L := [some (.ref 4097), some (.int (nI (w))), none, none]) rfl rfl ?_
  refine AR.run g_X0_sumOverVolumes_0_4 4 [some (.ref 4097), some (.int (nI (w))), some (.int (nI (0))), some (.int (nI (0)))] [] _ [] rfl trivial ?_
  refine AR.cast (L' := [some (.ref 4097), some (.int (nI (w))), some (.int (L_0sumOverVolumes_4 w T 0)), some (.int (nI (0)))]) (by first | rfl | (rw [L_0sumOverVolumes_4])) rfl rfl (AR.loopN nv (fun j4 => [some (.ref 4097), some (.int (nI (w))), some (.int (L_0sumOverVolumes_4 w T j4)), some (.int (nI (j4)))]) (fun j4 => (hp o0 (ar T K os sc) t0 p0 m0 u0 l0)) (fun j4 => True) (fun j4 hj4 hI4 ih4 => ?_) (fun hI4 => ?_) 0 (by omega) (by first | trivial | omega))
  · refine AR.run g_X0_sumOverVolumes_4_3 7 [some (.ref 4097), some (.int (nI (w))), some (.int (L_0sumOverVolumes_4 w T j4)), some (.int (nI (j4)))] [.int (nI (0)), .ref 4097, .int (nI (j4))] _ [] rfl trivial ?_
    refine AR.callV1 (4097) [.int (nI (0))] [.int (nI (j4))] lk_0_56 dc_X0_sumOverVolumes_7 rfl rfl (s_0number _ 0 (by omega)) (by first | rfl | (simp only [nI_add, pk_mul]; first | done | rfl)) rfl ?_
    refine AR.top hT.1.1 ?_
    refine AR.ge2N (tgt := 28) (a := j4) (b := nv) dc_X0_sumOverVolumes_10 (by decide) (by first | rfl | (simp only [nI_add, pk_mul]; first | done | rfl)) (by first | rfl | (simp only [nI_add, pk_mul]; first | done | rfl)) (by omega) (by omega) (fun c10_1 => absurd c10_1 (by omega)) (fun c10_1 => ?_)
    refine AR.run g_X0_sumOverVolumes_13_4 17 [some (.ref 4097), some (.int (nI (w))), some (.int (L_0sumOverVolumes_4 w T j4)), some (.int (nI (j4)))] [.int (nI (w)), .int (nI (j4)), .ref 4097, .int (L_0sumOverVolumes_4 w T j4)] _ [] rfl trivial ?_
    refine AR.callV1 (4097) [.int (nI (j4)), .int (nI (w))] [.int (L_0sumOverVolumes_4 w T j4)] lk_0_89 dc_X0_sumOverVolumes_17 rfl rfl (s_0volumeFact _ j4 w (by omega) (by first | assumption | exact (hLT j4 (by omega)).1) (by first | assumption | exact (hLT j4 (by omega)).2) (by omega)) (by first | rfl | (simp only [nI_add, pk_mul]; first | done | rfl)) rfl ?_
    refine AR.run g_X0_sumOverVolumes_20_4 4 [some (.ref 4097), some (.int (nI (w))), some (.int ((L_0sumOverVolumes_4 w T j4) + (F_0volumeFact j4 w T))), some (.int ((nI (j4)) + (nI (1))))] [] _ [] rfl trivial ?_
    have e2 : L_0sumOverVolumes_4 w T (j4 + 1) = ((L_0sumOverVolumes_4 w T j4) + (F_0volumeFact j4 w T)) := by rw [L_0sumOverVolumes_4, B_0sumOverVolumes_4]
    exact AR.cast (L' := [some (.ref 4097), some (.int (nI (w))), some (.int (L_0sumOverVolumes_4 w T (j4 + 1))), some (.int (nI (j4 + 1)))]) (by rw [e2, nI_add]) rfl rfl (ih4 (by first | trivial | omega))
  · refine AR.run g_X0_sumOverVolumes_4_3 7 [some (.ref 4097), some (.int (nI (w))), some (.int (L_0sumOverVolumes_4 w T nv)), some (.int (nI (nv)))] [.int (nI (0)), .ref 4097, .int (nI (nv))] _ [] rfl trivial ?_
    refine AR.callV1 (4097) [.int (nI (0))] [.int (nI (nv))] lk_0_56 dc_X0_sumOverVolumes_7 rfl rfl (s_0number _ 0 (by omega)) (by first | rfl | (simp only [nI_add, pk_mul]; first | done | rfl)) rfl ?_
    refine AR.top hT.1.1 ?_
    refine AR.ge2N (tgt := 28) (a := nv) (b := nv) dc_X0_sumOverVolumes_10 (by decide) (by first | rfl | (simp only [nI_add, pk_mul]; first | done | rfl)) (by first | rfl | (simp only [nI_add, pk_mul]; first | done | rfl)) (by omega) (by omega) (fun c10_3 => ?_) (fun c10_3 => absurd c10_3 (by omega))
    refine AR.run g_X0_sumOverVolumes_28_1 29 [some (.ref 4097), some (.int (nI (w))), some (.int (L_0sumOverVolumes_4 w T nv)), some (.int (nI (nv)))] [.int (L_0sumOverVolumes_4 w T nv)] _ [] rfl trivial ?_
    exact AR.retI dc_X0_sumOverVolumes_29 rfl rfl rfl
def B_0freeCradles_4 (T : Nat → Nat → Int32) (j4 : Nat) (x4_1 : Int32) : (Int32) := if (F_0isFree j4 T) = 0 then x4_1 else (x4_1 + (nI (1)))
def L_0freeCradles_4 (T : Nat → Nat → Int32) : Nat → (Int32)
  | 0 => nI (0)
  | j + 1 => B_0freeCradles_4 T j (L_0freeCradles_4 T  j)
theorem g_X0_freeCradles_0_4 : ab_oks M_X0_freeCradles [(0, .iconst 0, 1, 0, 0, 0, .int (nI (0))), (1, .istore_n 1, 1, 1, 0, 0, .null), (2, .iconst 0, 1, 0, 0, 0, .int (nI (0))), (3, .istore_n 2, 1, 2, 0, 0, .null)] = true := by decide +kernel
theorem g_X0_freeCradles_4_3 : ab_oks M_X0_freeCradles [(4, .iload_n 2, 1, 2, 0, 0, .null), (5, .aload_n 0, 1, 0, 0, 0, .null), (6, .iconst 1, 1, 0, 0, 0, .int (nI (1)))] = true := by decide +kernel
theorem dc_X0_freeCradles_7 : decode (AM.bytes M_X0_freeCradles) 7 = .ok (.invokevirtual 56, 3) := by decide +kernel
theorem dc_X0_freeCradles_10 : decode (AM.bytes M_X0_freeCradles) 10 = .ok (.if_icmp .ge 20, 3) := by decide +kernel
theorem g_X0_freeCradles_13_2 : ab_oks M_X0_freeCradles [(13, .aload_n 0, 1, 0, 0, 0, .null), (14, .iload_n 2, 1, 2, 0, 0, .null)] = true := by decide +kernel
theorem lk_0_92 : ab_lkV "LeafCradles$Archive" 92 M_X0_isFree 1 [300, 301, 302, 30, 303] = true := by decide +kernel
theorem dc_X0_freeCradles_15 : decode (AM.bytes M_X0_freeCradles) 15 = .ok (.invokevirtual 92, 3) := by decide +kernel
theorem dc_X0_freeCradles_18 : decode (AM.bytes M_X0_freeCradles) 18 = .ok (.ifCond .eq 6, 3) := by decide +kernel
theorem g_X0_freeCradles_24_2 : ab_oks M_X0_freeCradles [(24, .iinc 2 1, 3, 2, 0, 0, .int (nI (1))), (27, .goto (-23), 3, 4, 0, 0, .null)] = true := by decide +kernel
theorem g_X0_freeCradles_21_3 : ab_oks M_X0_freeCradles [(21, .iinc 1 1, 3, 1, 0, 0, .int (nI (1))), (24, .iinc 2 1, 3, 2, 0, 0, .int (nI (1))), (27, .goto (-23), 3, 4, 0, 0, .null)] = true := by decide +kernel
theorem g_X0_freeCradles_30_1 : ab_oks M_X0_freeCradles [(30, .iload_n 1, 1, 1, 0, 0, .null)] = true := by decide +kernel
theorem dc_X0_freeCradles_31 : decode (AM.bytes M_X0_freeCradles) 31 = .ok (.ireturn, 1) := by decide +kernel
set_option maxRecDepth 100000 in
set_option maxHeartbeats 4000000 in
theorem s_0freeCradles {E : AE} (d : Nat) {nv : Nat} {nc : Nat} {nr : Nat} {ne : Nat}  {o0 t0 p0 m0 u0 l0 : List AC} {T K : Nat → Nat → Int32} {os sc : Int32} (hT : TI T nv nc nr ne) : CT E M_X0_freeCradles (d + 2) [.ref 4097] (hp o0 (ar T K os sc) t0 p0 m0 u0 l0) (.inl (some (.int (L_0freeCradles_4 T nc)))) (hp o0 (ar T K os sc) t0 p0 m0 u0 l0) 0 0 := by
  obtain ⟨⟨hnv, h12⟩, ⟨hnc, h4⟩, ⟨hnr, h3⟩, ⟨hne, h60⟩, hLT, hHT⟩ := id hT
  refine CT.of (L := [some (.ref 4097), none, none]) rfl rfl ?_
  refine AR.run g_X0_freeCradles_0_4 4 [some (.ref 4097), some (.int (nI (0))), some (.int (nI (0)))] [] _ [] rfl trivial ?_
  refine AR.cast (L' := [some (.ref 4097), some (.int (L_0freeCradles_4 T 0)), some (.int (nI (0)))]) (by first | rfl | (rw [L_0freeCradles_4])) rfl rfl (AR.loopN nc (fun j4 => [some (.ref 4097), some (.int (L_0freeCradles_4 T j4)), some (.int (nI (j4)))]) (fun j4 => (hp o0 (ar T K os sc) t0 p0 m0 u0 l0)) (fun j4 => True) (fun j4 hj4 hI4 ih4 => ?_) (fun hI4 => ?_) 0 (by omega) (by first | trivial | omega))
  · refine AR.run g_X0_freeCradles_4_3 7 [some (.ref 4097), some (.int (L_0freeCradles_4 T j4)), some (.int (nI (j4)))] [.int (nI (1)), .ref 4097, .int (nI (j4))] _ [] rfl trivial ?_
    refine AR.callV1 (4097) [.int (nI (1))] [.int (nI (j4))] lk_0_56 dc_X0_freeCradles_7 rfl rfl (s_0number _ 1 (by omega)) (by first | rfl | (simp only [nI_add, pk_mul]; first | done | rfl)) rfl ?_
    refine AR.top hT.2.1.1 ?_
    refine AR.ge2N (tgt := 30) (a := j4) (b := nc) dc_X0_freeCradles_10 (by decide) (by first | rfl | (simp only [nI_add, pk_mul]; first | done | rfl)) (by first | rfl | (simp only [nI_add, pk_mul]; first | done | rfl)) (by omega) (by omega) (fun c10_1 => absurd c10_1 (by omega)) (fun c10_1 => ?_)
    refine AR.run g_X0_freeCradles_13_2 15 [some (.ref 4097), some (.int (L_0freeCradles_4 T j4)), some (.int (nI (j4)))] [.int (nI (j4)), .ref 4097] _ [] rfl trivial ?_
    refine AR.callV1 (4097) [.int (nI (j4))] [] lk_0_92 dc_X0_freeCradles_15 rfl rfl (s_0isFree _ j4 (by omega)) (by first | rfl | (simp only [nI_add, pk_mul]; first | done | rfl)) rfl ?_
    refine AR.eq (tgt := 24) dc_X0_freeCradles_18 (by decide) (fun c18_2 => ?_) (fun c18_2 => ?_)
    · refine AR.run g_X0_freeCradles_24_2 4 [some (.ref 4097), some (.int (L_0freeCradles_4 T j4)), some (.int ((nI (j4)) + (nI (1))))] [] _ [] rfl trivial ?_
      have e3 : L_0freeCradles_4 T (j4 + 1) = (L_0freeCradles_4 T j4) := by rw [L_0freeCradles_4, B_0freeCradles_4, if_pos c18_2]
      exact AR.cast (L' := [some (.ref 4097), some (.int (L_0freeCradles_4 T (j4 + 1))), some (.int (nI (j4 + 1)))]) (by rw [e3, nI_add]) rfl rfl (ih4 (by first | trivial | omega))
    · refine AR.run g_X0_freeCradles_21_3 4 [some (.ref 4097), some (.int ((L_0freeCradles_4 T j4) + (nI (1)))), some (.int ((nI (j4)) + (nI (1))))] [] _ [] rfl trivial ?_
      have e4 : L_0freeCradles_4 T (j4 + 1) = ((L_0freeCradles_4 T j4) + (nI (1))) := by rw [L_0freeCradles_4, B_0freeCradles_4, if_neg c18_2]
      exact AR.cast (L' := [some (.ref 4097), some (.int (L_0freeCradles_4 T (j4 + 1))), some (.int (nI (j4 + 1)))]) (by rw [e4, nI_add]) rfl rfl (ih4 (by first | trivial | omega))
  · refine AR.run g_X0_freeCradles_4_3 7 [some (.ref 4097), some (.int (L_0freeCradles_4 T nc)), some (.int (nI (nc)))] [.int (nI (1)), .ref 4097, .int (nI (nc))] _ [] rfl trivial ?_
    refine AR.callV1 (4097) [.int (nI (1))] [.int (nI (nc))] lk_0_56 dc_X0_freeCradles_7 rfl rfl (s_0number _ 1 (by omega)) (by first | rfl | (simp only [nI_add, pk_mul]; first | done | rfl)) rfl ?_
    refine AR.top hT.2.1.1 ?_
    refine AR.ge2N (tgt := 30) (a := nc) (b := nc) dc_X0_freeCradles_10 (by decide) (by first | rfl | (simp only [nI_add, pk_mul]; first | done | rfl)) (by first | rfl | (simp only [nI_add, pk_mul]; first | done | rfl)) (by omega) (by omega) (fun c10_5 => ?_) (fun c10_5 => absurd c10_5 (by omega))
    refine AR.run g_X0_freeCradles_30_1 31 [some (.ref 4097), some (.int (L_0freeCradles_4 T nc)), some (.int (nI (nc)))] [.int (L_0freeCradles_4 T nc)] _ [] rfl trivial ?_
    exact AR.retI dc_X0_freeCradles_31 rfl rfl rfl
def F_0total (w : Nat) (nv : Nat) (nc : Nat) (T : Nat → Nat → Int32) (sc : Int32) : Int32 := if w = 6 then (L_0sumOverVolumes_4 2 T nv) else if w = 7 then (L_0sumOverVolumes_4 w T nv) else if w = 8 then (L_0sumOverVolumes_4 w T nv) else if w = 9 then (L_0sumOverVolumes_4 w T nv) else if w = 10 then (L_0sumOverVolumes_4 11 T nv) else if w = 11 then ((T 5) 6) else if w = 12 then (L_0freeCradles_4 T nc) else if w = 13 then sc else ((T 5) w)
theorem g_X0_total_0_1 : ab_oks M_X0_total [(0, .iload_n 1, 1, 1, 0, 0, .null)] = true := by decide +kernel
theorem dc_X0_total_1 : decode (AM.bytes M_X0_total) 1 = .ok (.tableswitch 83 6 13 #[47, 53, 53, 53, 59, 66, 73, 78], 47) := by decide +kernel
theorem g_X0_total_48_2 : ab_oks M_X0_total [(48, .aload_n 0, 1, 0, 0, 0, .null), (49, .iconst 2, 1, 0, 0, 0, .int (nI (2)))] = true := by decide +kernel
theorem lk_0_82 : ab_lkV "LeafCradles$Archive" 82 M_X0_sumOverVolumes 1 [260, 262, 1, 30, 263] = true := by decide +kernel
theorem dc_X0_total_50 : decode (AM.bytes M_X0_total) 50 = .ok (.invokevirtual 82, 3) := by decide +kernel
theorem dc_X0_total_53 : decode (AM.bytes M_X0_total) 53 = .ok (.ireturn, 1) := by decide +kernel
theorem g_X0_total_54_2 : ab_oks M_X0_total [(54, .aload_n 0, 1, 0, 0, 0, .null), (55, .iload_n 1, 1, 1, 0, 0, .null)] = true := by decide +kernel
theorem dc_X0_total_56 : decode (AM.bytes M_X0_total) 56 = .ok (.invokevirtual 82, 3) := by decide +kernel
theorem dc_X0_total_59 : decode (AM.bytes M_X0_total) 59 = .ok (.ireturn, 1) := by decide +kernel
theorem g_X0_total_60_2 : ab_oks M_X0_total [(60, .aload_n 0, 1, 0, 0, 0, .null), (61, .bipush 11, 2, 0, 0, 0, .int (nI (11)))] = true := by decide +kernel
theorem dc_X0_total_63 : decode (AM.bytes M_X0_total) 63 = .ok (.invokevirtual 82, 3) := by decide +kernel
theorem dc_X0_total_66 : decode (AM.bytes M_X0_total) 66 = .ok (.ireturn, 1) := by decide +kernel
theorem g_X0_total_67_2 : ab_oks M_X0_total [(67, .aload_n 0, 1, 0, 0, 0, .null), (68, .bipush 6, 2, 0, 0, 0, .int (nI (6)))] = true := by decide +kernel
theorem dc_X0_total_70 : decode (AM.bytes M_X0_total) 70 = .ok (.invokevirtual 56, 3) := by decide +kernel
theorem dc_X0_total_73 : decode (AM.bytes M_X0_total) 73 = .ok (.ireturn, 1) := by decide +kernel
theorem g_X0_total_74_1 : ab_oks M_X0_total [(74, .aload_n 0, 1, 0, 0, 0, .null)] = true := by decide +kernel
theorem lk_0_85 : ab_lkV "LeafCradles$Archive" 85 M_X0_freeCradles 0 [296, 298, 7, 30, 299] = true := by decide +kernel
theorem dc_X0_total_75 : decode (AM.bytes M_X0_total) 75 = .ok (.invokevirtual 85, 3) := by decide +kernel
theorem dc_X0_total_78 : decode (AM.bytes M_X0_total) 78 = .ok (.ireturn, 1) := by decide +kernel
theorem g_X0_total_79_2 : ab_oks M_X0_total [(79, .aload_n 0, 1, 0, 0, 0, .null), (80, .getfield 39, 3, 0, 7, 96, .null)] = true := by decide +kernel
theorem dc_X0_total_83 : decode (AM.bytes M_X0_total) 83 = .ok (.ireturn, 1) := by decide +kernel
theorem g_X0_total_84_2 : ab_oks M_X0_total [(84, .aload_n 0, 1, 0, 0, 0, .null), (85, .iload_n 1, 1, 1, 0, 0, .null)] = true := by decide +kernel
theorem dc_X0_total_86 : decode (AM.bytes M_X0_total) 86 = .ok (.invokevirtual 56, 3) := by decide +kernel
theorem dc_X0_total_89 : decode (AM.bytes M_X0_total) 89 = .ok (.ireturn, 1) := by decide +kernel
set_option maxRecDepth 100000 in
set_option maxHeartbeats 4000000 in
theorem s_0total {E : AE} (d : Nat) (w : Nat) {nv : Nat} {nc : Nat} {nr : Nat} {ne : Nat}  {o0 t0 p0 m0 u0 l0 : List AC} {T K : Nat → Nat → Int32} {os sc : Int32} (hT : TI T nv nc nr ne) (hw : w < 14) : CT E M_X0_total (d + 5) [.ref 4097, .int (nI (w))] (hp o0 (ar T K os sc) t0 p0 m0 u0 l0) (.inl (some (.int (F_0total w nv nc T sc)))) (hp o0 (ar T K os sc) t0 p0 m0 u0 l0) 0 0 := by
  obtain ⟨⟨hnv, h12⟩, ⟨hnc, h4⟩, ⟨hnr, h3⟩, ⟨hne, h60⟩, hLT, hHT⟩ := id hT
  refine CT.of (L := [some (.ref 4097), some (.int (nI (w)))]) rfl rfl ?_
  refine AR.run g_X0_total_0_1 1 [some (.ref 4097), some (.int (nI (w)))] [.int (nI (w))] _ [] rfl trivial ?_
  by_cases w1_1 : w = 6
  · refine AR.tswN (w := w) (tgt := 48) 6 dc_X0_total_1 (by first | rfl | (simp only [nI_add, pk_mul]; first | done | rfl)) w1_1 (by decide) 0 (by decide) (by decide) rfl (by decide) ?_
    refine AR.run g_X0_total_48_2 50 [some (.ref 4097), some (.int (nI (w)))] [.int (nI (2)), .ref 4097] _ [] rfl trivial ?_
    refine AR.callV1 (4097) [.int (nI (2))] [] lk_0_82 dc_X0_total_50 rfl rfl (s_0sumOverVolumes _ 2 (by assumption) (by omega)) (by first | rfl | (simp only [nI_add, pk_mul]; first | done | rfl)) rfl ?_
    have e2_0 : F_0total w nv nc T sc = (L_0sumOverVolumes_4 2 T nv) := by rw [F_0total, if_pos w1_1]
    exact AR.retI dc_X0_total_53 rfl e2_0.symm rfl
  · by_cases w1_3 : w = 7
    · refine AR.tswN (w := w) (tgt := 54) 7 dc_X0_total_1 (by first | rfl | (simp only [nI_add, pk_mul]; first | done | rfl)) w1_3 (by decide) 1 (by decide) (by decide) rfl (by decide) ?_
      refine AR.run g_X0_total_54_2 56 [some (.ref 4097), some (.int (nI (w)))] [.int (nI (w)), .ref 4097] _ [] rfl trivial ?_
      refine AR.callV1 (4097) [.int (nI (w))] [] lk_0_82 dc_X0_total_56 rfl rfl (s_0sumOverVolumes _ w (by assumption) (by omega)) (by first | rfl | (simp only [nI_add, pk_mul]; first | done | rfl)) rfl ?_
      have e4_0 : F_0total w nv nc T sc = (L_0sumOverVolumes_4 w T nv) := by rw [F_0total, if_neg w1_1, if_pos w1_3]
      exact AR.retI dc_X0_total_59 rfl e4_0.symm rfl
    · by_cases w1_5 : w = 8
      · refine AR.tswN (w := w) (tgt := 54) 8 dc_X0_total_1 (by first | rfl | (simp only [nI_add, pk_mul]; first | done | rfl)) w1_5 (by decide) 2 (by decide) (by decide) rfl (by decide) ?_
        refine AR.run g_X0_total_54_2 56 [some (.ref 4097), some (.int (nI (w)))] [.int (nI (w)), .ref 4097] _ [] rfl trivial ?_
        refine AR.callV1 (4097) [.int (nI (w))] [] lk_0_82 dc_X0_total_56 rfl rfl (s_0sumOverVolumes _ w (by assumption) (by omega)) (by first | rfl | (simp only [nI_add, pk_mul]; first | done | rfl)) rfl ?_
        have e6_0 : F_0total w nv nc T sc = (L_0sumOverVolumes_4 w T nv) := by rw [F_0total, if_neg w1_1, if_neg w1_3, if_pos w1_5]
        exact AR.retI dc_X0_total_59 rfl e6_0.symm rfl
      · by_cases w1_7 : w = 9
        · refine AR.tswN (w := w) (tgt := 54) 9 dc_X0_total_1 (by first | rfl | (simp only [nI_add, pk_mul]; first | done | rfl)) w1_7 (by decide) 3 (by decide) (by decide) rfl (by decide) ?_
          refine AR.run g_X0_total_54_2 56 [some (.ref 4097), some (.int (nI (w)))] [.int (nI (w)), .ref 4097] _ [] rfl trivial ?_
          refine AR.callV1 (4097) [.int (nI (w))] [] lk_0_82 dc_X0_total_56 rfl rfl (s_0sumOverVolumes _ w (by assumption) (by omega)) (by first | rfl | (simp only [nI_add, pk_mul]; first | done | rfl)) rfl ?_
          have e8_0 : F_0total w nv nc T sc = (L_0sumOverVolumes_4 w T nv) := by rw [F_0total, if_neg w1_1, if_neg w1_3, if_neg w1_5, if_pos w1_7]
          exact AR.retI dc_X0_total_59 rfl e8_0.symm rfl
        · by_cases w1_9 : w = 10
          · refine AR.tswN (w := w) (tgt := 60) 10 dc_X0_total_1 (by first | rfl | (simp only [nI_add, pk_mul]; first | done | rfl)) w1_9 (by decide) 4 (by decide) (by decide) rfl (by decide) ?_
            refine AR.run g_X0_total_60_2 63 [some (.ref 4097), some (.int (nI (w)))] [.int (nI (11)), .ref 4097] _ [] rfl trivial ?_
            refine AR.callV1 (4097) [.int (nI (11))] [] lk_0_82 dc_X0_total_63 rfl rfl (s_0sumOverVolumes _ 11 (by assumption) (by omega)) (by first | rfl | (simp only [nI_add, pk_mul]; first | done | rfl)) rfl ?_
            have e10_0 : F_0total w nv nc T sc = (L_0sumOverVolumes_4 11 T nv) := by rw [F_0total, if_neg w1_1, if_neg w1_3, if_neg w1_5, if_neg w1_7, if_pos w1_9]
            exact AR.retI dc_X0_total_66 rfl e10_0.symm rfl
          · by_cases w1_11 : w = 11
            · refine AR.tswN (w := w) (tgt := 67) 11 dc_X0_total_1 (by first | rfl | (simp only [nI_add, pk_mul]; first | done | rfl)) w1_11 (by decide) 5 (by decide) (by decide) rfl (by decide) ?_
              refine AR.run g_X0_total_67_2 70 [some (.ref 4097), some (.int (nI (w)))] [.int (nI (6)), .ref 4097] _ [] rfl trivial ?_
              refine AR.callV1 (4097) [.int (nI (6))] [] lk_0_56 dc_X0_total_70 rfl rfl (s_0number _ 6 (by omega)) (by first | rfl | (simp only [nI_add, pk_mul]; first | done | rfl)) rfl ?_
              have e12_0 : F_0total w nv nc T sc = ((T 5) 6) := by rw [F_0total, if_neg w1_1, if_neg w1_3, if_neg w1_5, if_neg w1_7, if_neg w1_9, if_pos w1_11]
              exact AR.retI dc_X0_total_73 rfl e12_0.symm rfl
            · by_cases w1_13 : w = 12
              · refine AR.tswN (w := w) (tgt := 74) 12 dc_X0_total_1 (by first | rfl | (simp only [nI_add, pk_mul]; first | done | rfl)) w1_13 (by decide) 6 (by decide) (by decide) rfl (by decide) ?_
                refine AR.run g_X0_total_74_1 75 [some (.ref 4097), some (.int (nI (w)))] [.ref 4097] _ [] rfl trivial ?_
                refine AR.callV1 (4097) [] [] lk_0_85 dc_X0_total_75 rfl rfl (s_0freeCradles _  (by assumption)) (by first | rfl | (simp only [nI_add, pk_mul]; first | done | rfl)) rfl ?_
                have e14_0 : F_0total w nv nc T sc = (L_0freeCradles_4 T nc) := by rw [F_0total, if_neg w1_1, if_neg w1_3, if_neg w1_5, if_neg w1_7, if_neg w1_9, if_neg w1_11, if_pos w1_13]
                exact AR.retI dc_X0_total_78 rfl e14_0.symm rfl
              · by_cases w1_15 : w = 13
                · refine AR.tswN (w := w) (tgt := 79) 13 dc_X0_total_1 (by first | rfl | (simp only [nI_add, pk_mul]; first | done | rfl)) w1_15 (by decide) 7 (by decide) (by decide) rfl (by decide) ?_
                  refine AR.run g_X0_total_79_2 83 [some (.ref 4097), some (.int (nI (w)))] [.int (sc)] _ [] rfl trivial ?_
                  have e16_0 : F_0total w nv nc T sc = sc := by rw [F_0total, if_neg w1_1, if_neg w1_3, if_neg w1_5, if_neg w1_7, if_neg w1_9, if_neg w1_11, if_neg w1_13, if_pos w1_15]
                  exact AR.retI dc_X0_total_83 rfl e16_0.symm rfl
                · refine AR.tswdN (w := w) (tgt := 84) dc_X0_total_1 (by first | rfl | (simp only [nI_add, pk_mul]; first | done | rfl)) (by omega) (by omega) (by decide) ?_
                  refine AR.run g_X0_total_84_2 86 [some (.ref 4097), some (.int (nI (w)))] [.int (nI (w)), .ref 4097] _ [] rfl trivial ?_
                  refine AR.callV1 (4097) [.int (nI (w))] [] lk_0_56 dc_X0_total_86 rfl rfl (s_0number _ w (by omega)) (by first | rfl | (simp only [nI_add, pk_mul]; first | done | rfl)) rfl ?_
                  have e17_0 : F_0total w nv nc T sc = ((T 5) w) := by rw [F_0total, if_neg w1_1, if_neg w1_3, if_neg w1_5, if_neg w1_7, if_neg w1_9, if_neg w1_11, if_neg w1_13, if_neg w1_15]
                  exact AR.retI dc_X0_total_89 rfl e17_0.symm rfl
def F_0shareOfOpenLeaves (nv : Nat) (T : Nat → Nat → Int32) : UInt64 := if 0 < (L_0sumOverVolumes_4 2 T nv) then (FP.ddiv (FP.i2d (L_0sumOverVolumes_4 9 T nv)) (FP.i2d (L_0sumOverVolumes_4 2 T nv))) else (FP.dconst0)
theorem g_X0_shareOfOpenLeaves_0_2 : ab_oks M_X0_shareOfOpenLeaves [(0, .aload_n 0, 1, 0, 0, 0, .null), (1, .iconst 2, 1, 0, 0, 0, .int (nI (2)))] = true := by decide +kernel
theorem dc_X0_shareOfOpenLeaves_2 : decode (AM.bytes M_X0_shareOfOpenLeaves) 2 = .ok (.invokevirtual 82, 3) := by decide +kernel
theorem g_X0_shareOfOpenLeaves_5_2 : ab_oks M_X0_shareOfOpenLeaves [(5, .istore_n 1, 1, 1, 0, 0, .null), (6, .iload_n 1, 1, 1, 0, 0, .null)] = true := by decide +kernel
theorem dc_X0_shareOfOpenLeaves_7 : decode (AM.bytes M_X0_shareOfOpenLeaves) 7 = .ok (.ifCond .gt 7, 3) := by decide +kernel
theorem g_X0_shareOfOpenLeaves_14_2 : ab_oks M_X0_shareOfOpenLeaves [(14, .aload_n 0, 1, 0, 0, 0, .null), (15, .bipush 9, 2, 0, 0, 0, .int (nI (9)))] = true := by decide +kernel
theorem dc_X0_shareOfOpenLeaves_17 : decode (AM.bytes M_X0_shareOfOpenLeaves) 17 = .ok (.invokevirtual 82, 3) := by decide +kernel
theorem g_X0_shareOfOpenLeaves_20_3 : ab_oks M_X0_shareOfOpenLeaves [(20, .i2d, 1, 0, 0, 0, .null), (21, .iload_n 1, 1, 1, 0, 0, .null), (22, .i2d, 1, 0, 0, 0, .null)] = true := by decide +kernel
theorem g_X0_shareOfOpenLeaves_23_1 : ab_oks M_X0_shareOfOpenLeaves [(23, .ddiv, 1, 0, 0, 0, .null)] = true := by decide +kernel
theorem dc_X0_shareOfOpenLeaves_24 : decode (AM.bytes M_X0_shareOfOpenLeaves) 24 = .ok (.dreturn, 1) := by decide +kernel
theorem g_X0_shareOfOpenLeaves_10_2 : ab_oks M_X0_shareOfOpenLeaves [(10, .dconst 0, 1, 0, 0, 0, .double (FP.dconst0)), (11, .goto 13, 3, 24, 0, 0, .null)] = true := by decide +kernel
set_option maxRecDepth 100000 in
set_option maxHeartbeats 4000000 in
theorem s_0shareOfOpenLeaves {E : AE} (d : Nat) {nv : Nat} {nc : Nat} {nr : Nat} {ne : Nat}  {o0 t0 p0 m0 u0 l0 : List AC} {T K : Nat → Nat → Int32} {os sc : Int32} (hT : TI T nv nc nr ne) (hnan : 0 < L_0sumOverVolumes_4 2 T nv → vf_n64 (FP.ddiv (FP.i2d (L_0sumOverVolumes_4 9 T nv)) (FP.i2d (L_0sumOverVolumes_4 2 T nv)))) : CT E M_X0_shareOfOpenLeaves (d + 5) [.ref 4097] (hp o0 (ar T K os sc) t0 p0 m0 u0 l0) (.inl (some (.double (F_0shareOfOpenLeaves nv T)))) (hp o0 (ar T K os sc) t0 p0 m0 u0 l0) 0 0 := by
  obtain ⟨⟨hnv, h12⟩, ⟨hnc, h4⟩, ⟨hnr, h3⟩, ⟨hne, h60⟩, hLT, hHT⟩ := id hT
  refine CT.of (L := [some (.ref 4097), none]) rfl rfl ?_
  refine AR.run g_X0_shareOfOpenLeaves_0_2 2 [some (.ref 4097), none] [.int (nI (2)), .ref 4097] _ [] rfl trivial ?_
  refine AR.callV1 (4097) [.int (nI (2))] [] lk_0_82 dc_X0_shareOfOpenLeaves_2 rfl rfl (s_0sumOverVolumes _ 2 (by assumption) (by omega)) (by first | rfl | (simp only [nI_add, pk_mul]; first | done | rfl)) rfl ?_
  refine AR.run g_X0_shareOfOpenLeaves_5_2 7 [some (.ref 4097), some (.int (L_0sumOverVolumes_4 2 T nv))] [.int (L_0sumOverVolumes_4 2 T nv)] _ [] rfl trivial ?_
  refine AR.gt (tgt := 14) dc_X0_shareOfOpenLeaves_7 (by decide) (fun c7_1 => ?_) (fun c7_1 => ?_)
  · refine AR.run g_X0_shareOfOpenLeaves_14_2 17 [some (.ref 4097), some (.int (L_0sumOverVolumes_4 2 T nv))] [.int (nI (9)), .ref 4097] _ [] rfl trivial ?_
    refine AR.callV1 (4097) [.int (nI (9))] [] lk_0_82 dc_X0_shareOfOpenLeaves_17 rfl rfl (s_0sumOverVolumes _ 9 (by assumption) (by omega)) (by first | rfl | (simp only [nI_add, pk_mul]; first | done | rfl)) rfl ?_
    refine AR.run g_X0_shareOfOpenLeaves_20_3 23 [some (.ref 4097), some (.int (L_0sumOverVolumes_4 2 T nv))] [.double (FP.i2d (L_0sumOverVolumes_4 2 T nv)), .double (FP.i2d (L_0sumOverVolumes_4 9 T nv))] _ [] rfl trivial ?_
    refine AR.run g_X0_shareOfOpenLeaves_23_1 24 [some (.ref 4097), some (.int (L_0sumOverVolumes_4 2 T nv))] [.double (FP.ddiv (FP.i2d (L_0sumOverVolumes_4 9 T nv)) (FP.i2d (L_0sumOverVolumes_4 2 T nv)))] _ [vf_n64 (FP.ddiv (FP.i2d (L_0sumOverVolumes_4 9 T nv)) (FP.i2d (L_0sumOverVolumes_4 2 T nv)))] rfl (show vf_n64 (FP.ddiv (FP.i2d (L_0sumOverVolumes_4 9 T nv)) (FP.i2d (L_0sumOverVolumes_4 2 T nv))) from by first | assumption | exact hnan (by assumption)) ?_
    have e2_0 : F_0shareOfOpenLeaves nv T = (FP.ddiv (FP.i2d (L_0sumOverVolumes_4 9 T nv)) (FP.i2d (L_0sumOverVolumes_4 2 T nv))) := by rw [F_0shareOfOpenLeaves, if_pos c7_1]
    exact AR.retD dc_X0_shareOfOpenLeaves_24 rfl e2_0.symm rfl
  · refine AR.run g_X0_shareOfOpenLeaves_10_2 24 [some (.ref 4097), some (.int (L_0sumOverVolumes_4 2 T nv))] [.double (FP.dconst0)] _ [] rfl trivial ?_
    have e3_0 : F_0shareOfOpenLeaves nv T = (FP.dconst0) := by rw [F_0shareOfOpenLeaves, if_neg c7_1]
    exact AR.retD dc_X0_shareOfOpenLeaves_24 rfl e3_0.symm rfl
def F_0reasonAgainst (v : Nat) (c : Nat) (r : Nat) (ne : Nat) (T : Nat → Nat → Int32) : Int32 := if ((T 0) (v * 7 + 5)) = (-1) then if ((T 0) (v * 7 + 6)) ≤ 0 then if (F_0isFree c T) = 0 then (nI (3)) else if (F_0isLargeEnough c v T) = 0 then (nI (4)) else if (F_0isGentleEnough c v T) = 0 then (nI (5)) else if (F_0nextLeaf v T) = (-1) then (nI (6)) else if ((T 3) (r * 4 + 1)) ≤ 0 then if ne < 60 then (nI (0)) else (nI (8)) else (nI (7)) else (nI (2)) else (nI (1))
theorem g_X0_reasonAgainst_0_4 : ab_oks M_X0_reasonAgainst [(0, .aload_n 0, 1, 0, 0, 0, .null), (1, .getfield 14, 3, 0, 0, 89, .null), (4, .iload_n 1, 1, 1, 0, 0, .null), (5, .iconst 5, 1, 0, 0, 0, .int (nI (5)))] = true := by decide +kernel
theorem dc_X0_reasonAgainst_6 : decode (AM.bytes M_X0_reasonAgainst) 6 = .ok (.invokevirtual 45, 3) := by decide +kernel
theorem g_X0_reasonAgainst_9_1 : ab_oks M_X0_reasonAgainst [(9, .iconst (-1), 1, 0, 0, 0, .int (-1))] = true := by decide +kernel
theorem dc_X0_reasonAgainst_10 : decode (AM.bytes M_X0_reasonAgainst) 10 = .ok (.if_icmp .eq 5, 3) := by decide +kernel
theorem g_X0_reasonAgainst_15_4 : ab_oks M_X0_reasonAgainst [(15, .aload_n 0, 1, 0, 0, 0, .null), (16, .getfield 14, 3, 0, 0, 89, .null), (19, .iload_n 1, 1, 1, 0, 0, .null), (20, .bipush 6, 2, 0, 0, 0, .int (nI (6)))] = true := by decide +kernel
theorem dc_X0_reasonAgainst_22 : decode (AM.bytes M_X0_reasonAgainst) 22 = .ok (.invokevirtual 45, 3) := by decide +kernel
theorem dc_X0_reasonAgainst_25 : decode (AM.bytes M_X0_reasonAgainst) 25 = .ok (.ifCond .le 5, 3) := by decide +kernel
theorem g_X0_reasonAgainst_30_2 : ab_oks M_X0_reasonAgainst [(30, .aload_n 0, 1, 0, 0, 0, .null), (31, .iload_n 2, 1, 2, 0, 0, .null)] = true := by decide +kernel
theorem dc_X0_reasonAgainst_32 : decode (AM.bytes M_X0_reasonAgainst) 32 = .ok (.invokevirtual 92, 3) := by decide +kernel
theorem dc_X0_reasonAgainst_35 : decode (AM.bytes M_X0_reasonAgainst) 35 = .ok (.ifCond .ne 5, 3) := by decide +kernel
theorem g_X0_reasonAgainst_40_3 : ab_oks M_X0_reasonAgainst [(40, .aload_n 0, 1, 0, 0, 0, .null), (41, .iload_n 2, 1, 2, 0, 0, .null), (42, .iload_n 1, 1, 1, 0, 0, .null)] = true := by decide +kernel
theorem lk_0_99 : ab_lkV "LeafCradles$Archive" 99 M_X0_isLargeEnough 2 [513, 514, 515, 30, 516] = true := by decide +kernel
theorem dc_X0_reasonAgainst_43 : decode (AM.bytes M_X0_reasonAgainst) 43 = .ok (.invokevirtual 99, 3) := by decide +kernel
theorem dc_X0_reasonAgainst_46 : decode (AM.bytes M_X0_reasonAgainst) 46 = .ok (.ifCond .ne 5, 3) := by decide +kernel
theorem g_X0_reasonAgainst_51_3 : ab_oks M_X0_reasonAgainst [(51, .aload_n 0, 1, 0, 0, 0, .null), (52, .iload_n 2, 1, 2, 0, 0, .null), (53, .iload_n 1, 1, 1, 0, 0, .null)] = true := by decide +kernel
theorem dc_X0_reasonAgainst_54 : decode (AM.bytes M_X0_reasonAgainst) 54 = .ok (.invokevirtual 96, 3) := by decide +kernel
theorem dc_X0_reasonAgainst_57 : decode (AM.bytes M_X0_reasonAgainst) 57 = .ok (.ifCond .ne 5, 3) := by decide +kernel
theorem g_X0_reasonAgainst_62_2 : ab_oks M_X0_reasonAgainst [(62, .aload_n 0, 1, 0, 0, 0, .null), (63, .iload_n 1, 1, 1, 0, 0, .null)] = true := by decide +kernel
theorem dc_X0_reasonAgainst_64 : decode (AM.bytes M_X0_reasonAgainst) 64 = .ok (.invokevirtual 69, 3) := by decide +kernel
theorem g_X0_reasonAgainst_67_1 : ab_oks M_X0_reasonAgainst [(67, .iconst (-1), 1, 0, 0, 0, .int (-1))] = true := by decide +kernel
theorem dc_X0_reasonAgainst_68 : decode (AM.bytes M_X0_reasonAgainst) 68 = .ok (.if_icmp .ne 6, 3) := by decide +kernel
theorem g_X0_reasonAgainst_74_4 : ab_oks M_X0_reasonAgainst [(74, .aload_n 0, 1, 0, 0, 0, .null), (75, .getfield 26, 3, 0, 3, 92, .null), (78, .iload_n 3, 1, 3, 0, 0, .null), (79, .iconst 1, 1, 0, 0, 0, .int (nI (1)))] = true := by decide +kernel
theorem dc_X0_reasonAgainst_80 : decode (AM.bytes M_X0_reasonAgainst) 80 = .ok (.invokevirtual 45, 3) := by decide +kernel
theorem dc_X0_reasonAgainst_83 : decode (AM.bytes M_X0_reasonAgainst) 83 = .ok (.ifCond .le 6, 3) := by decide +kernel
theorem g_X0_reasonAgainst_89_2 : ab_oks M_X0_reasonAgainst [(89, .aload_n 0, 1, 0, 0, 0, .null), (90, .iconst 5, 1, 0, 0, 0, .int (nI (5)))] = true := by decide +kernel
theorem dc_X0_reasonAgainst_91 : decode (AM.bytes M_X0_reasonAgainst) 91 = .ok (.invokevirtual 56, 3) := by decide +kernel
theorem g_X0_reasonAgainst_94_1 : ab_oks M_X0_reasonAgainst [(94, .bipush 60, 2, 0, 0, 0, .int (nI (60)))] = true := by decide +kernel
theorem dc_X0_reasonAgainst_96 : decode (AM.bytes M_X0_reasonAgainst) 96 = .ok (.if_icmp .lt 8, 3) := by decide +kernel
theorem g_X0_reasonAgainst_104_1 : ab_oks M_X0_reasonAgainst [(104, .iconst 0, 1, 0, 0, 0, .int (nI (0)))] = true := by decide +kernel
theorem dc_X0_reasonAgainst_105 : decode (AM.bytes M_X0_reasonAgainst) 105 = .ok (.ireturn, 1) := by decide +kernel
theorem g_X0_reasonAgainst_99_2 : ab_oks M_X0_reasonAgainst [(99, .bipush 8, 2, 0, 0, 0, .int (nI (8))), (101, .goto 4, 3, 105, 0, 0, .null)] = true := by decide +kernel
theorem g_X0_reasonAgainst_86_1 : ab_oks M_X0_reasonAgainst [(86, .bipush 7, 2, 0, 0, 0, .int (nI (7)))] = true := by decide +kernel
theorem dc_X0_reasonAgainst_88 : decode (AM.bytes M_X0_reasonAgainst) 88 = .ok (.ireturn, 1) := by decide +kernel
theorem g_X0_reasonAgainst_71_1 : ab_oks M_X0_reasonAgainst [(71, .bipush 6, 2, 0, 0, 0, .int (nI (6)))] = true := by decide +kernel
theorem dc_X0_reasonAgainst_73 : decode (AM.bytes M_X0_reasonAgainst) 73 = .ok (.ireturn, 1) := by decide +kernel
theorem g_X0_reasonAgainst_60_1 : ab_oks M_X0_reasonAgainst [(60, .iconst 5, 1, 0, 0, 0, .int (nI (5)))] = true := by decide +kernel
theorem dc_X0_reasonAgainst_61 : decode (AM.bytes M_X0_reasonAgainst) 61 = .ok (.ireturn, 1) := by decide +kernel
theorem g_X0_reasonAgainst_49_1 : ab_oks M_X0_reasonAgainst [(49, .iconst 4, 1, 0, 0, 0, .int (nI (4)))] = true := by decide +kernel
theorem dc_X0_reasonAgainst_50 : decode (AM.bytes M_X0_reasonAgainst) 50 = .ok (.ireturn, 1) := by decide +kernel
theorem g_X0_reasonAgainst_38_1 : ab_oks M_X0_reasonAgainst [(38, .iconst 3, 1, 0, 0, 0, .int (nI (3)))] = true := by decide +kernel
theorem dc_X0_reasonAgainst_39 : decode (AM.bytes M_X0_reasonAgainst) 39 = .ok (.ireturn, 1) := by decide +kernel
theorem g_X0_reasonAgainst_28_1 : ab_oks M_X0_reasonAgainst [(28, .iconst 2, 1, 0, 0, 0, .int (nI (2)))] = true := by decide +kernel
theorem dc_X0_reasonAgainst_29 : decode (AM.bytes M_X0_reasonAgainst) 29 = .ok (.ireturn, 1) := by decide +kernel
theorem g_X0_reasonAgainst_13_1 : ab_oks M_X0_reasonAgainst [(13, .iconst 1, 1, 0, 0, 0, .int (nI (1)))] = true := by decide +kernel
theorem dc_X0_reasonAgainst_14 : decode (AM.bytes M_X0_reasonAgainst) 14 = .ok (.ireturn, 1) := by decide +kernel
set_option maxRecDepth 100000 in
set_option maxHeartbeats 4000000 in
theorem s_0reasonAgainst {E : AE} (d : Nat) (v : Nat) (c : Nat) (r : Nat) {nv : Nat} {nc : Nat} {nr : Nat} {ne : Nat}  {o0 t0 p0 m0 u0 l0 : List AC} {T K : Nat → Nat → Int32} {os sc : Int32} (hT : TI T nv nc nr ne) (hv : v < nv) (hc : c < 4) (hr : r < 3) : CT E M_X0_reasonAgainst (d + 2) [.ref 4097, .int (nI (v)), .int (nI (c)), .int (nI (r))] (hp o0 (ar T K os sc) t0 p0 m0 u0 l0) (.inl (some (.int (F_0reasonAgainst v c r ne T)))) (hp o0 (ar T K os sc) t0 p0 m0 u0 l0) 0 0 := by
  obtain ⟨⟨hnv, h12⟩, ⟨hnc, h4⟩, ⟨hnr, h3⟩, ⟨hne, h60⟩, hLT, hHT⟩ := id hT
  refine CT.of (L := [some (.ref 4097), some (.int (nI (v))), some (.int (nI (c))), some (.int (nI (r)))]) rfl rfl ?_
  refine AR.run g_X0_reasonAgainst_0_4 6 [some (.ref 4097), some (.int (nI (v))), some (.int (nI (c))), some (.int (nI (r)))] [.int (nI (5)), .int (nI (v)), .ref 4098] _ [] rfl trivial ?_
  refine AR.callV1 (4098) [.int (nI (v)), .int (nI (5))] [] lk_0_45 dc_X0_reasonAgainst_6 rfl rfl (s_3atT0 _ v 5 (by omega) (by omega)) (by first | rfl | (simp only [nI_add, pk_mul]; first | done | rfl)) rfl ?_
  refine AR.run g_X0_reasonAgainst_9_1 10 [some (.ref 4097), some (.int (nI (v))), some (.int (nI (c))), some (.int (nI (r)))] [.int (-1), .int ((T 0) (v * 7 + 5))] _ [] rfl trivial ?_
  refine AR.eq2 (tgt := 15) dc_X0_reasonAgainst_10 (by decide) (fun c10_1 => ?_) (fun c10_1 => ?_)
  · refine AR.run g_X0_reasonAgainst_15_4 22 [some (.ref 4097), some (.int (nI (v))), some (.int (nI (c))), some (.int (nI (r)))] [.int (nI (6)), .int (nI (v)), .ref 4098] _ [] rfl trivial ?_
    refine AR.callV1 (4098) [.int (nI (v)), .int (nI (6))] [] lk_0_45 dc_X0_reasonAgainst_22 rfl rfl (s_3atT0 _ v 6 (by omega) (by omega)) (by first | rfl | (simp only [nI_add, pk_mul]; first | done | rfl)) rfl ?_
    refine AR.le (tgt := 30) dc_X0_reasonAgainst_25 (by decide) (fun c25_2 => ?_) (fun c25_2 => ?_)
    · refine AR.run g_X0_reasonAgainst_30_2 32 [some (.ref 4097), some (.int (nI (v))), some (.int (nI (c))), some (.int (nI (r)))] [.int (nI (c)), .ref 4097] _ [] rfl trivial ?_
      refine AR.callV1 (4097) [.int (nI (c))] [] lk_0_92 dc_X0_reasonAgainst_32 rfl rfl (s_0isFree _ c (by omega)) (by first | rfl | (simp only [nI_add, pk_mul]; first | done | rfl)) rfl ?_
      refine AR.ne (tgt := 40) dc_X0_reasonAgainst_35 (by decide) (fun c35_3 => ?_) (fun c35_3 => ?_)
      · refine AR.run g_X0_reasonAgainst_40_3 43 [some (.ref 4097), some (.int (nI (v))), some (.int (nI (c))), some (.int (nI (r)))] [.int (nI (v)), .int (nI (c)), .ref 4097] _ [] rfl trivial ?_
        refine AR.callV1 (4097) [.int (nI (c)), .int (nI (v))] [] lk_0_99 dc_X0_reasonAgainst_43 rfl rfl (s_0isLargeEnough _ c v (by omega) (by omega)) (by first | rfl | (simp only [nI_add, pk_mul]; first | done | rfl)) rfl ?_
        refine AR.ne (tgt := 51) dc_X0_reasonAgainst_46 (by decide) (fun c46_4 => ?_) (fun c46_4 => ?_)
        · refine AR.run g_X0_reasonAgainst_51_3 54 [some (.ref 4097), some (.int (nI (v))), some (.int (nI (c))), some (.int (nI (r)))] [.int (nI (v)), .int (nI (c)), .ref 4097] _ [] rfl trivial ?_
          refine AR.callV1 (4097) [.int (nI (c)), .int (nI (v))] [] lk_0_96 dc_X0_reasonAgainst_54 rfl rfl (s_0isGentleEnough _ c v (by omega) (by omega)) (by first | rfl | (simp only [nI_add, pk_mul]; first | done | rfl)) rfl ?_
          refine AR.ne (tgt := 62) dc_X0_reasonAgainst_57 (by decide) (fun c57_5 => ?_) (fun c57_5 => ?_)
          · refine AR.run g_X0_reasonAgainst_62_2 64 [some (.ref 4097), some (.int (nI (v))), some (.int (nI (c))), some (.int (nI (r)))] [.int (nI (v)), .ref 4097] _ [] rfl trivial ?_
            refine AR.callV1 (4097) [.int (nI (v))] [] lk_0_69 dc_X0_reasonAgainst_64 rfl rfl (s_0nextLeaf _ v (by omega) (by first | assumption | exact (hLT v (by omega)).1) (by first | assumption | exact (hLT v (by omega)).2)) (by first | rfl | (simp only [nI_add, pk_mul]; first | done | rfl)) rfl ?_
            refine AR.run g_X0_reasonAgainst_67_1 68 [some (.ref 4097), some (.int (nI (v))), some (.int (nI (c))), some (.int (nI (r)))] [.int (-1), .int (F_0nextLeaf v T)] _ [] rfl trivial ?_
            refine AR.ne2 (tgt := 74) dc_X0_reasonAgainst_68 (by decide) (fun c68_6 => ?_) (fun c68_6 => ?_)
            · refine AR.run g_X0_reasonAgainst_74_4 80 [some (.ref 4097), some (.int (nI (v))), some (.int (nI (c))), some (.int (nI (r)))] [.int (nI (1)), .int (nI (r)), .ref 4107] _ [] rfl trivial ?_
              refine AR.callV1 (4107) [.int (nI (r)), .int (nI (1))] [] lk_0_45 dc_X0_reasonAgainst_80 rfl rfl (s_3atT3 _ r 1 (by omega) (by omega)) (by first | rfl | (simp only [nI_add, pk_mul]; first | done | rfl)) rfl ?_
              refine AR.le (tgt := 89) dc_X0_reasonAgainst_83 (by decide) (fun c83_7 => ?_) (fun c83_7 => ?_)
              · refine AR.run g_X0_reasonAgainst_89_2 91 [some (.ref 4097), some (.int (nI (v))), some (.int (nI (c))), some (.int (nI (r)))] [.int (nI (5)), .ref 4097] _ [] rfl trivial ?_
                refine AR.callV1 (4097) [.int (nI (5))] [] lk_0_56 dc_X0_reasonAgainst_91 rfl rfl (s_0number _ 5 (by omega)) (by first | rfl | (simp only [nI_add, pk_mul]; first | done | rfl)) rfl ?_
                refine AR.top hT.2.2.2.1.1 ?_
                refine AR.run g_X0_reasonAgainst_94_1 96 [some (.ref 4097), some (.int (nI (v))), some (.int (nI (c))), some (.int (nI (r)))] [.int (nI (60)), .int (nI (ne))] _ [] rfl trivial ?_
                refine AR.lt2N (tgt := 104) (a := ne) (b := 60) dc_X0_reasonAgainst_96 (by decide) (by first | rfl | (simp only [nI_add, pk_mul]; first | done | rfl)) (by first | rfl | (simp only [nI_add, pk_mul]; first | done | rfl)) (by omega) (by omega) (fun c96_8 => ?_) (fun c96_8 => ?_)
                · refine AR.run g_X0_reasonAgainst_104_1 105 [some (.ref 4097), some (.int (nI (v))), some (.int (nI (c))), some (.int (nI (r)))] [.int (nI (0))] _ [] rfl trivial ?_
                  have e9_0 : F_0reasonAgainst v c r ne T = (nI (0)) := by rw [F_0reasonAgainst, if_pos c10_1, if_pos c25_2, if_neg c35_3, if_neg c46_4, if_neg c57_5, if_neg c68_6, if_pos c83_7, if_pos (show ne < 60 from by omega)]
                  exact AR.retI dc_X0_reasonAgainst_105 rfl e9_0.symm rfl
                · refine AR.run g_X0_reasonAgainst_99_2 105 [some (.ref 4097), some (.int (nI (v))), some (.int (nI (c))), some (.int (nI (r)))] [.int (nI (8))] _ [] rfl trivial ?_
                  have e10_0 : F_0reasonAgainst v c r ne T = (nI (8)) := by rw [F_0reasonAgainst, if_pos c10_1, if_pos c25_2, if_neg c35_3, if_neg c46_4, if_neg c57_5, if_neg c68_6, if_pos c83_7, if_neg (show ¬ (ne < 60) from by omega)]
                  exact AR.retI dc_X0_reasonAgainst_105 rfl e10_0.symm rfl
              · refine AR.run g_X0_reasonAgainst_86_1 88 [some (.ref 4097), some (.int (nI (v))), some (.int (nI (c))), some (.int (nI (r)))] [.int (nI (7))] _ [] rfl trivial ?_
                have e11_0 : F_0reasonAgainst v c r ne T = (nI (7)) := by rw [F_0reasonAgainst, if_pos c10_1, if_pos c25_2, if_neg c35_3, if_neg c46_4, if_neg c57_5, if_neg c68_6, if_neg c83_7]
                exact AR.retI dc_X0_reasonAgainst_88 rfl e11_0.symm rfl
            · refine AR.run g_X0_reasonAgainst_71_1 73 [some (.ref 4097), some (.int (nI (v))), some (.int (nI (c))), some (.int (nI (r)))] [.int (nI (6))] _ [] rfl trivial ?_
              have e12_0 : F_0reasonAgainst v c r ne T = (nI (6)) := by rw [F_0reasonAgainst, if_pos c10_1, if_pos c25_2, if_neg c35_3, if_neg c46_4, if_neg c57_5, if_pos c68_6]
              exact AR.retI dc_X0_reasonAgainst_73 rfl e12_0.symm rfl
          · refine AR.run g_X0_reasonAgainst_60_1 61 [some (.ref 4097), some (.int (nI (v))), some (.int (nI (c))), some (.int (nI (r)))] [.int (nI (5))] _ [] rfl trivial ?_
            have e13_0 : F_0reasonAgainst v c r ne T = (nI (5)) := by rw [F_0reasonAgainst, if_pos c10_1, if_pos c25_2, if_neg c35_3, if_neg c46_4, if_pos c57_5]
            exact AR.retI dc_X0_reasonAgainst_61 rfl e13_0.symm rfl
        · refine AR.run g_X0_reasonAgainst_49_1 50 [some (.ref 4097), some (.int (nI (v))), some (.int (nI (c))), some (.int (nI (r)))] [.int (nI (4))] _ [] rfl trivial ?_
          have e14_0 : F_0reasonAgainst v c r ne T = (nI (4)) := by rw [F_0reasonAgainst, if_pos c10_1, if_pos c25_2, if_neg c35_3, if_pos c46_4]
          exact AR.retI dc_X0_reasonAgainst_50 rfl e14_0.symm rfl
      · refine AR.run g_X0_reasonAgainst_38_1 39 [some (.ref 4097), some (.int (nI (v))), some (.int (nI (c))), some (.int (nI (r)))] [.int (nI (3))] _ [] rfl trivial ?_
        have e15_0 : F_0reasonAgainst v c r ne T = (nI (3)) := by rw [F_0reasonAgainst, if_pos c10_1, if_pos c25_2, if_pos c35_3]
        exact AR.retI dc_X0_reasonAgainst_39 rfl e15_0.symm rfl
    · refine AR.run g_X0_reasonAgainst_28_1 29 [some (.ref 4097), some (.int (nI (v))), some (.int (nI (c))), some (.int (nI (r)))] [.int (nI (2))] _ [] rfl trivial ?_
      have e16_0 : F_0reasonAgainst v c r ne T = (nI (2)) := by rw [F_0reasonAgainst, if_pos c10_1, if_neg c25_2]
      exact AR.retI dc_X0_reasonAgainst_29 rfl e16_0.symm rfl
  · refine AR.run g_X0_reasonAgainst_13_1 14 [some (.ref 4097), some (.int (nI (v))), some (.int (nI (c))), some (.int (nI (r)))] [.int (nI (1))] _ [] rfl trivial ?_
    have e17_0 : F_0reasonAgainst v c r ne T = (nI (1)) := by rw [F_0reasonAgainst, if_neg c10_1]
    exact AR.retI dc_X0_reasonAgainst_14 rfl e17_0.symm rfl
def F_0mayTakeBack (v : Nat) (r : Nat) (ne : Nat) (T : Nat → Nat → Int32) : Int32 := if ((T 0) (v * 7 + 5)) = (-1) then (nI (0)) else if ((T 3) (r * 4 + 1)) = 0 then if 60 ≤ ne then (nI (0)) else (nI (1)) else (nI (0))
theorem F_0mayTakeBack_01 (v : Nat) (r : Nat) (ne : Nat) (T : Nat → Nat → Int32) : F_0mayTakeBack v r ne T = nI 0 ∨ F_0mayTakeBack v r ne T = nI 1 := by
  unfold F_0mayTakeBack
  (repeat' split) <;> first | exact Or.inl rfl | exact Or.inr rfl | exact wi01 _ _ _
theorem g_X0_mayTakeBack_0_4 : ab_oks M_X0_mayTakeBack [(0, .aload_n 0, 1, 0, 0, 0, .null), (1, .getfield 14, 3, 0, 0, 89, .null), (4, .iload_n 1, 1, 1, 0, 0, .null), (5, .iconst 5, 1, 0, 0, 0, .int (nI (5)))] = true := by decide +kernel
theorem dc_X0_mayTakeBack_6 : decode (AM.bytes M_X0_mayTakeBack) 6 = .ok (.invokevirtual 45, 3) := by decide +kernel
theorem g_X0_mayTakeBack_9_1 : ab_oks M_X0_mayTakeBack [(9, .iconst (-1), 1, 0, 0, 0, .int (-1))] = true := by decide +kernel
theorem dc_X0_mayTakeBack_10 : decode (AM.bytes M_X0_mayTakeBack) 10 = .ok (.if_icmp .eq 29, 3) := by decide +kernel
theorem g_X0_mayTakeBack_39_1 : ab_oks M_X0_mayTakeBack [(39, .iconst 0, 1, 0, 0, 0, .int (nI (0)))] = true := by decide +kernel
theorem dc_X0_mayTakeBack_40 : decode (AM.bytes M_X0_mayTakeBack) 40 = .ok (.ireturn, 1) := by decide +kernel
theorem g_X0_mayTakeBack_13_4 : ab_oks M_X0_mayTakeBack [(13, .aload_n 0, 1, 0, 0, 0, .null), (14, .getfield 26, 3, 0, 3, 92, .null), (17, .iload_n 2, 1, 2, 0, 0, .null), (18, .iconst 1, 1, 0, 0, 0, .int (nI (1)))] = true := by decide +kernel
theorem dc_X0_mayTakeBack_19 : decode (AM.bytes M_X0_mayTakeBack) 19 = .ok (.invokevirtual 45, 3) := by decide +kernel
theorem dc_X0_mayTakeBack_22 : decode (AM.bytes M_X0_mayTakeBack) 22 = .ok (.ifCond .ne 17, 3) := by decide +kernel
theorem g_X0_mayTakeBack_25_2 : ab_oks M_X0_mayTakeBack [(25, .aload_n 0, 1, 0, 0, 0, .null), (26, .iconst 5, 1, 0, 0, 0, .int (nI (5)))] = true := by decide +kernel
theorem dc_X0_mayTakeBack_27 : decode (AM.bytes M_X0_mayTakeBack) 27 = .ok (.invokevirtual 56, 3) := by decide +kernel
theorem g_X0_mayTakeBack_30_1 : ab_oks M_X0_mayTakeBack [(30, .bipush 60, 2, 0, 0, 0, .int (nI (60)))] = true := by decide +kernel
theorem dc_X0_mayTakeBack_32 : decode (AM.bytes M_X0_mayTakeBack) 32 = .ok (.if_icmp .ge 7, 3) := by decide +kernel
theorem g_X0_mayTakeBack_35_2 : ab_oks M_X0_mayTakeBack [(35, .iconst 1, 1, 0, 0, 0, .int (nI (1))), (36, .goto 4, 3, 40, 0, 0, .null)] = true := by decide +kernel
set_option maxRecDepth 100000 in
set_option maxHeartbeats 4000000 in
theorem s_0mayTakeBack {E : AE} (d : Nat) (v : Nat) (r : Nat) {nv : Nat} {nc : Nat} {nr : Nat} {ne : Nat}  {o0 t0 p0 m0 u0 l0 : List AC} {T K : Nat → Nat → Int32} {os sc : Int32} (hT : TI T nv nc nr ne) (hv : v < nv) (hr : r < 3) : CT E M_X0_mayTakeBack (d + 2) [.ref 4097, .int (nI (v)), .int (nI (r))] (hp o0 (ar T K os sc) t0 p0 m0 u0 l0) (.inl (some (.int (F_0mayTakeBack v r ne T)))) (hp o0 (ar T K os sc) t0 p0 m0 u0 l0) 0 0 := by
  obtain ⟨⟨hnv, h12⟩, ⟨hnc, h4⟩, ⟨hnr, h3⟩, ⟨hne, h60⟩, hLT, hHT⟩ := id hT
  refine CT.of (L := [some (.ref 4097), some (.int (nI (v))), some (.int (nI (r)))]) rfl rfl ?_
  refine AR.run g_X0_mayTakeBack_0_4 6 [some (.ref 4097), some (.int (nI (v))), some (.int (nI (r)))] [.int (nI (5)), .int (nI (v)), .ref 4098] _ [] rfl trivial ?_
  refine AR.callV1 (4098) [.int (nI (v)), .int (nI (5))] [] lk_0_45 dc_X0_mayTakeBack_6 rfl rfl (s_3atT0 _ v 5 (by omega) (by omega)) (by first | rfl | (simp only [nI_add, pk_mul]; first | done | rfl)) rfl ?_
  refine AR.run g_X0_mayTakeBack_9_1 10 [some (.ref 4097), some (.int (nI (v))), some (.int (nI (r)))] [.int (-1), .int ((T 0) (v * 7 + 5))] _ [] rfl trivial ?_
  refine AR.eq2 (tgt := 39) dc_X0_mayTakeBack_10 (by decide) (fun c10_1 => ?_) (fun c10_1 => ?_)
  · refine AR.run g_X0_mayTakeBack_39_1 40 [some (.ref 4097), some (.int (nI (v))), some (.int (nI (r)))] [.int (nI (0))] _ [] rfl trivial ?_
    have e2_0 : F_0mayTakeBack v r ne T = (nI (0)) := by rw [F_0mayTakeBack, if_pos c10_1]
    exact AR.retZ dc_X0_mayTakeBack_40 rfl (Or.inl rfl) e2_0.symm rfl
  · refine AR.run g_X0_mayTakeBack_13_4 19 [some (.ref 4097), some (.int (nI (v))), some (.int (nI (r)))] [.int (nI (1)), .int (nI (r)), .ref 4107] _ [] rfl trivial ?_
    refine AR.callV1 (4107) [.int (nI (r)), .int (nI (1))] [] lk_0_45 dc_X0_mayTakeBack_19 rfl rfl (s_3atT3 _ r 1 (by omega) (by omega)) (by first | rfl | (simp only [nI_add, pk_mul]; first | done | rfl)) rfl ?_
    refine AR.ne (tgt := 39) dc_X0_mayTakeBack_22 (by decide) (fun c22_3 => ?_) (fun c22_3 => ?_)
    · refine AR.run g_X0_mayTakeBack_39_1 40 [some (.ref 4097), some (.int (nI (v))), some (.int (nI (r)))] [.int (nI (0))] _ [] rfl trivial ?_
      have e4_0 : F_0mayTakeBack v r ne T = (nI (0)) := by rw [F_0mayTakeBack, if_neg c10_1, if_neg c22_3]
      exact AR.retZ dc_X0_mayTakeBack_40 rfl (Or.inl rfl) e4_0.symm rfl
    · refine AR.run g_X0_mayTakeBack_25_2 27 [some (.ref 4097), some (.int (nI (v))), some (.int (nI (r)))] [.int (nI (5)), .ref 4097] _ [] rfl trivial ?_
      refine AR.callV1 (4097) [.int (nI (5))] [] lk_0_56 dc_X0_mayTakeBack_27 rfl rfl (s_0number _ 5 (by omega)) (by first | rfl | (simp only [nI_add, pk_mul]; first | done | rfl)) rfl ?_
      refine AR.top hT.2.2.2.1.1 ?_
      refine AR.run g_X0_mayTakeBack_30_1 32 [some (.ref 4097), some (.int (nI (v))), some (.int (nI (r)))] [.int (nI (60)), .int (nI (ne))] _ [] rfl trivial ?_
      refine AR.ge2N (tgt := 39) (a := ne) (b := 60) dc_X0_mayTakeBack_32 (by decide) (by first | rfl | (simp only [nI_add, pk_mul]; first | done | rfl)) (by first | rfl | (simp only [nI_add, pk_mul]; first | done | rfl)) (by omega) (by omega) (fun c32_5 => ?_) (fun c32_5 => ?_)
      · refine AR.run g_X0_mayTakeBack_39_1 40 [some (.ref 4097), some (.int (nI (v))), some (.int (nI (r)))] [.int (nI (0))] _ [] rfl trivial ?_
        have e6_0 : F_0mayTakeBack v r ne T = (nI (0)) := by rw [F_0mayTakeBack, if_neg c10_1, if_pos c22_3, if_pos (show 60 ≤ ne from by omega)]
        exact AR.retZ dc_X0_mayTakeBack_40 rfl (Or.inl rfl) e6_0.symm rfl
      · refine AR.run g_X0_mayTakeBack_35_2 40 [some (.ref 4097), some (.int (nI (v))), some (.int (nI (r)))] [.int (nI (1))] _ [] rfl trivial ?_
        have e7_0 : F_0mayTakeBack v r ne T = (nI (1)) := by rw [F_0mayTakeBack, if_neg c10_1, if_pos c22_3, if_neg (show ¬ (60 ≤ ne) from by omega)]
        exact AR.retZ dc_X0_mayTakeBack_40 rfl (Or.inr rfl) e7_0.symm rfl
def F_0replaceNumber (c : Nat) (T : Nat → Nat → Int32) : Int32 := ((T 5) c)
def F_0replaceNumber_T (c : Nat) (x : Int32) (T : Nat → Nat → Int32) : Nat → Nat → Int32 := (tu T 5 (upd (T 5) c x))
theorem g_X0_replaceNumber_0_4 : ab_oks M_X0_replaceNumber [(0, .aload_n 0, 1, 0, 0, 0, .null), (1, .getfield 32, 3, 0, 5, 94, .null), (4, .iconst 0, 1, 0, 0, 0, .int (nI (0))), (5, .iload_n 1, 1, 1, 0, 0, .null)] = true := by decide +kernel
theorem dc_X0_replaceNumber_6 : decode (AM.bytes M_X0_replaceNumber) 6 = .ok (.invokevirtual 45, 3) := by decide +kernel
theorem g_X0_replaceNumber_9_6 : ab_oks M_X0_replaceNumber [(9, .istore_n 3, 1, 3, 0, 0, .null), (10, .aload_n 0, 1, 0, 0, 0, .null), (11, .getfield 32, 3, 0, 5, 94, .null), (14, .iconst 0, 1, 0, 0, 0, .int (nI (0))), (15, .iload_n 1, 1, 1, 0, 0, .null), (16, .iload_n 2, 1, 2, 0, 0, .null)] = true := by decide +kernel
theorem lk_0_42 : ab_lkV "LeafCradles$Archive" 42 M_X3_put 3 [85, 86, 87, 31, 88] = true := by decide +kernel
theorem dc_X0_replaceNumber_17 : decode (AM.bytes M_X0_replaceNumber) 17 = .ok (.invokevirtual 42, 3) := by decide +kernel
theorem g_X0_replaceNumber_20_1 : ab_oks M_X0_replaceNumber [(20, .iload_n 3, 1, 3, 0, 0, .null)] = true := by decide +kernel
theorem dc_X0_replaceNumber_21 : decode (AM.bytes M_X0_replaceNumber) 21 = .ok (.ireturn, 1) := by decide +kernel
set_option maxRecDepth 100000 in
set_option maxHeartbeats 4000000 in
theorem s_0replaceNumber {E : AE} (d : Nat) (c : Nat) (x : Int32)  {o0 t0 p0 m0 u0 l0 : List AC} {T K : Nat → Nat → Int32} {os sc : Int32} (hc : c < 11) : CT E M_X0_replaceNumber (d + 1) [.ref 4097, .int (nI (c)), .int (x)] (hp o0 (ar T K os sc) t0 p0 m0 u0 l0) (.inl (some (.int (F_0replaceNumber c T)))) (hp o0 (ar (F_0replaceNumber_T c x T) K os sc) t0 p0 m0 u0 l0) 0 0 := by
  refine CT.of (L := [some (.ref 4097), some (.int (nI (c))), some (.int (x)), none]) rfl rfl ?_
  refine AR.run g_X0_replaceNumber_0_4 6 [some (.ref 4097), some (.int (nI (c))), some (.int (x)), none] [.int (nI (c)), .int (nI (0)), .ref 4113] _ [] rfl trivial ?_
  refine AR.callV1 (4113) [.int (nI (0)), .int (nI (c))] [] lk_0_45 dc_X0_replaceNumber_6 rfl rfl (s_3atT5 _ c (by omega)) (by first | rfl | (simp only [nI_add, pk_mul]; first | done | rfl)) rfl ?_
  refine AR.run g_X0_replaceNumber_9_6 17 [some (.ref 4097), some (.int (nI (c))), some (.int (x)), some (.int ((T 5) c))] [.int (x), .int (nI (c)), .int (nI (0)), .ref 4113] _ [] rfl trivial ?_
  refine AR.callV0 (4113) [.int (nI (0)), .int (nI (c)), .int (x)] [] lk_0_42 dc_X0_replaceNumber_17 rfl rfl (s_3putT5 _ c x (by omega)) (by first | rfl | (simp only [nI_add, pk_mul]; first | done | rfl)) rfl ?_
  refine AR.cast (h1 := (hp o0 (ar (tu T 5 (upd (T 5) c x)) K os sc) t0 p0 m0 u0 l0)) rfl rfl rfl ?_
  refine AR.run g_X0_replaceNumber_20_1 21 [some (.ref 4097), some (.int (nI (c))), some (.int (x)), some (.int ((T 5) c))] [.int ((T 5) c)] _ [] rfl trivial ?_
  have e1_0 : F_0replaceNumber c T = ((T 5) c) := by rw [F_0replaceNumber]
  have e1_1 : F_0replaceNumber_T c x T = (tu T 5 (upd (T 5) c x)) := by rw [F_0replaceNumber_T]
  exact AR.retI dc_X0_replaceNumber_21 rfl e1_0.symm (by rw [e1_1])
def F_0newVolume (nv : Nat) : Int32 := (nI (nv))
def F_0newVolume_T (b0 : Int32) (b1 : Int32) (b2 : Int32) (b3 : Int32) (nv : Nat) (T : Nat → Nat → Int32) : Nat → Nat → Int32 := (tu (tu T 0 (upd (upd (upd (upd (upd (T 0) ((nv * 7) + 0) b0) ((nv * 7) + 1) b1) ((nv * 7) + 2) b2) ((nv * 7) + 3) b3) ((nv * 7) + 5) (-1))) 5 (upd (T 5) 0 (((T 5) 0) + (nI (1)))))
theorem g_X0_newVolume_0_2 : ab_oks M_X0_newVolume [(0, .aload_n 0, 1, 0, 0, 0, .null), (1, .iconst 0, 1, 0, 0, 0, .int (nI (0)))] = true := by decide +kernel
theorem dc_X0_newVolume_2 : decode (AM.bytes M_X0_newVolume) 2 = .ok (.invokevirtual 56, 3) := by decide +kernel
theorem g_X0_newVolume_5_6 : ab_oks M_X0_newVolume [(5, .istore 5, 2, 5, 0, 0, .null), (7, .aload_n 0, 1, 0, 0, 0, .null), (8, .getfield 14, 3, 0, 0, 89, .null), (11, .iload 5, 2, 5, 0, 0, .null), (13, .iconst 0, 1, 0, 0, 0, .int (nI (0))), (14, .iload_n 1, 1, 1, 0, 0, .null)] = true := by decide +kernel
theorem dc_X0_newVolume_15 : decode (AM.bytes M_X0_newVolume) 15 = .ok (.invokevirtual 42, 3) := by decide +kernel
theorem g_X0_newVolume_18_5 : ab_oks M_X0_newVolume [(18, .aload_n 0, 1, 0, 0, 0, .null), (19, .getfield 14, 3, 0, 0, 89, .null), (22, .iload 5, 2, 5, 0, 0, .null), (24, .iconst 1, 1, 0, 0, 0, .int (nI (1))), (25, .iload_n 2, 1, 2, 0, 0, .null)] = true := by decide +kernel
theorem dc_X0_newVolume_26 : decode (AM.bytes M_X0_newVolume) 26 = .ok (.invokevirtual 42, 3) := by decide +kernel
theorem g_X0_newVolume_29_5 : ab_oks M_X0_newVolume [(29, .aload_n 0, 1, 0, 0, 0, .null), (30, .getfield 14, 3, 0, 0, 89, .null), (33, .iload 5, 2, 5, 0, 0, .null), (35, .iconst 2, 1, 0, 0, 0, .int (nI (2))), (36, .iload_n 3, 1, 3, 0, 0, .null)] = true := by decide +kernel
theorem dc_X0_newVolume_37 : decode (AM.bytes M_X0_newVolume) 37 = .ok (.invokevirtual 42, 3) := by decide +kernel
theorem g_X0_newVolume_40_5 : ab_oks M_X0_newVolume [(40, .aload_n 0, 1, 0, 0, 0, .null), (41, .getfield 14, 3, 0, 0, 89, .null), (44, .iload 5, 2, 5, 0, 0, .null), (46, .iconst 3, 1, 0, 0, 0, .int (nI (3))), (47, .iload 4, 2, 4, 0, 0, .null)] = true := by decide +kernel
theorem dc_X0_newVolume_49 : decode (AM.bytes M_X0_newVolume) 49 = .ok (.invokevirtual 42, 3) := by decide +kernel
theorem g_X0_newVolume_52_5 : ab_oks M_X0_newVolume [(52, .aload_n 0, 1, 0, 0, 0, .null), (53, .getfield 14, 3, 0, 0, 89, .null), (56, .iload 5, 2, 5, 0, 0, .null), (58, .iconst 5, 1, 0, 0, 0, .int (nI (5))), (59, .iconst (-1), 1, 0, 0, 0, .int (-1))] = true := by decide +kernel
theorem dc_X0_newVolume_60 : decode (AM.bytes M_X0_newVolume) 60 = .ok (.invokevirtual 42, 3) := by decide +kernel
theorem g_X0_newVolume_63_5 : ab_oks M_X0_newVolume [(63, .aload_n 0, 1, 0, 0, 0, .null), (64, .getfield 32, 3, 0, 5, 94, .null), (67, .iconst 0, 1, 0, 0, 0, .int (nI (0))), (68, .iconst 0, 1, 0, 0, 0, .int (nI (0))), (69, .iconst 1, 1, 0, 0, 0, .int (nI (1)))] = true := by decide +kernel
theorem lk_0_60 : ab_lkV "LeafCradles$Archive" 60 M_X3_add 3 [464, 465, 466, 31, 467] = true := by decide +kernel
theorem dc_X0_newVolume_70 : decode (AM.bytes M_X0_newVolume) 70 = .ok (.invokevirtual 60, 3) := by decide +kernel
theorem g_X0_newVolume_73_1 : ab_oks M_X0_newVolume [(73, .iload 5, 2, 5, 0, 0, .null)] = true := by decide +kernel
theorem dc_X0_newVolume_75 : decode (AM.bytes M_X0_newVolume) 75 = .ok (.ireturn, 1) := by decide +kernel
set_option maxRecDepth 100000 in
set_option maxHeartbeats 4000000 in
theorem s_0newVolume {E : AE} (d : Nat) (b0 : Int32) (b1 : Int32) (b2 : Int32) (b3 : Int32) {nv : Nat} {nc : Nat} {nr : Nat} {ne : Nat}  {o0 t0 p0 m0 u0 l0 : List AC} {T K : Nat → Nat → Int32} {os sc : Int32} (hT : TI T nv nc nr ne) (hn12 : nv < 12) : CT E M_X0_newVolume (d + 2) [.ref 4097, .int (b0), .int (b1), .int (b2), .int (b3)] (hp o0 (ar T K os sc) t0 p0 m0 u0 l0) (.inl (some (.int (F_0newVolume nv)))) (hp o0 (ar (F_0newVolume_T b0 b1 b2 b3 nv T) K os sc) t0 p0 m0 u0 l0) 0 0 := by
  obtain ⟨⟨hnv, h12⟩, ⟨hnc, h4⟩, ⟨hnr, h3⟩, ⟨hne, h60⟩, hLT, hHT⟩ := id hT
  refine CT.of (L := [some (.ref 4097), some (.int (b0)), some (.int (b1)), some (.int (b2)), some (.int (b3)), none]) rfl rfl ?_
  refine AR.run g_X0_newVolume_0_2 2 [some (.ref 4097), some (.int (b0)), some (.int (b1)), some (.int (b2)), some (.int (b3)), none] [.int (nI (0)), .ref 4097] _ [] rfl trivial ?_
  refine AR.callV1 (4097) [.int (nI (0))] [] lk_0_56 dc_X0_newVolume_2 rfl rfl (s_0number _ 0 (by omega)) (by first | rfl | (simp only [nI_add, pk_mul]; first | done | rfl)) rfl ?_
  refine AR.top hT.1.1 ?_
  refine AR.run g_X0_newVolume_5_6 15 [some (.ref 4097), some (.int (b0)), some (.int (b1)), some (.int (b2)), some (.int (b3)), some (.int (nI (nv)))] [.int (b0), .int (nI (0)), .int (nI (nv)), .ref 4098] _ [] rfl trivial ?_
  refine AR.callV0 (4098) [.int (nI (nv)), .int (nI (0)), .int (b0)] [] lk_0_42 dc_X0_newVolume_15 rfl rfl (s_3putT0 _ nv 0 b0 (by omega) (by omega)) (by first | rfl | (simp only [nI_add, pk_mul]; first | done | rfl)) rfl ?_
  refine AR.cast (h1 := (hp o0 (ar (tu T 0 (upd (T 0) ((nv * 7) + 0) b0)) K os sc) t0 p0 m0 u0 l0)) rfl rfl rfl ?_
  refine AR.run g_X0_newVolume_18_5 26 [some (.ref 4097), some (.int (b0)), some (.int (b1)), some (.int (b2)), some (.int (b3)), some (.int (nI (nv)))] [.int (b1), .int (nI (1)), .int (nI (nv)), .ref 4098] _ [] rfl trivial ?_
  refine AR.callV0 (4098) [.int (nI (nv)), .int (nI (1)), .int (b1)] [] lk_0_42 dc_X0_newVolume_26 rfl rfl (s_3putT0 _ nv 1 b1 (by omega) (by omega)) (by first | rfl | (simp only [nI_add, pk_mul]; first | done | rfl)) rfl ?_
  refine AR.cast (h1 := (hp o0 (ar (tu T 0 (upd (upd (T 0) ((nv * 7) + 0) b0) ((nv * 7) + 1) b1)) K os sc) t0 p0 m0 u0 l0)) rfl rfl rfl ?_
  refine AR.run g_X0_newVolume_29_5 37 [some (.ref 4097), some (.int (b0)), some (.int (b1)), some (.int (b2)), some (.int (b3)), some (.int (nI (nv)))] [.int (b2), .int (nI (2)), .int (nI (nv)), .ref 4098] _ [] rfl trivial ?_
  refine AR.callV0 (4098) [.int (nI (nv)), .int (nI (2)), .int (b2)] [] lk_0_42 dc_X0_newVolume_37 rfl rfl (s_3putT0 _ nv 2 b2 (by omega) (by omega)) (by first | rfl | (simp only [nI_add, pk_mul]; first | done | rfl)) rfl ?_
  refine AR.cast (h1 := (hp o0 (ar (tu T 0 (upd (upd (upd (T 0) ((nv * 7) + 0) b0) ((nv * 7) + 1) b1) ((nv * 7) + 2) b2)) K os sc) t0 p0 m0 u0 l0)) rfl rfl rfl ?_
  refine AR.run g_X0_newVolume_40_5 49 [some (.ref 4097), some (.int (b0)), some (.int (b1)), some (.int (b2)), some (.int (b3)), some (.int (nI (nv)))] [.int (b3), .int (nI (3)), .int (nI (nv)), .ref 4098] _ [] rfl trivial ?_
  refine AR.callV0 (4098) [.int (nI (nv)), .int (nI (3)), .int (b3)] [] lk_0_42 dc_X0_newVolume_49 rfl rfl (s_3putT0 _ nv 3 b3 (by omega) (by omega)) (by first | rfl | (simp only [nI_add, pk_mul]; first | done | rfl)) rfl ?_
  refine AR.cast (h1 := (hp o0 (ar (tu T 0 (upd (upd (upd (upd (T 0) ((nv * 7) + 0) b0) ((nv * 7) + 1) b1) ((nv * 7) + 2) b2) ((nv * 7) + 3) b3)) K os sc) t0 p0 m0 u0 l0)) rfl rfl rfl ?_
  refine AR.run g_X0_newVolume_52_5 60 [some (.ref 4097), some (.int (b0)), some (.int (b1)), some (.int (b2)), some (.int (b3)), some (.int (nI (nv)))] [.int (-1), .int (nI (5)), .int (nI (nv)), .ref 4098] _ [] rfl trivial ?_
  refine AR.callV0 (4098) [.int (nI (nv)), .int (nI (5)), .int (-1)] [] lk_0_42 dc_X0_newVolume_60 rfl rfl (s_3putT0 _ nv 5 (-1) (by omega) (by omega)) (by first | rfl | (simp only [nI_add, pk_mul]; first | done | rfl)) rfl ?_
  refine AR.cast (h1 := (hp o0 (ar (tu T 0 (upd (upd (upd (upd (upd (T 0) ((nv * 7) + 0) b0) ((nv * 7) + 1) b1) ((nv * 7) + 2) b2) ((nv * 7) + 3) b3) ((nv * 7) + 5) (-1))) K os sc) t0 p0 m0 u0 l0)) rfl rfl rfl ?_
  refine AR.run g_X0_newVolume_63_5 70 [some (.ref 4097), some (.int (b0)), some (.int (b1)), some (.int (b2)), some (.int (b3)), some (.int (nI (nv)))] [.int (nI (1)), .int (nI (0)), .int (nI (0)), .ref 4113] _ [] rfl trivial ?_
  refine AR.callV0 (4113) [.int (nI (0)), .int (nI (0)), .int (nI (1))] [] lk_0_60 dc_X0_newVolume_70 rfl rfl (s_3addT5 _ 0 (nI (1)) (by omega)) (by first | rfl | (simp only [nI_add, pk_mul]; first | done | rfl)) rfl ?_
  refine AR.cast (h1 := (hp o0 (ar (tu (tu T 0 (upd (upd (upd (upd (upd (T 0) ((nv * 7) + 0) b0) ((nv * 7) + 1) b1) ((nv * 7) + 2) b2) ((nv * 7) + 3) b3) ((nv * 7) + 5) (-1))) 5 (upd (T 5) 0 (((T 5) 0) + (nI (1))))) K os sc) t0 p0 m0 u0 l0)) rfl rfl rfl ?_
  refine AR.run g_X0_newVolume_73_1 75 [some (.ref 4097), some (.int (b0)), some (.int (b1)), some (.int (b2)), some (.int (b3)), some (.int (nI (nv)))] [.int (nI (nv))] _ [] rfl trivial ?_
  have e1_0 : F_0newVolume nv = (nI (nv)) := by rw [F_0newVolume]
  have e1_1 : F_0newVolume_T b0 b1 b2 b3 nv T = (tu (tu T 0 (upd (upd (upd (upd (upd (T 0) ((nv * 7) + 0) b0) ((nv * 7) + 1) b1) ((nv * 7) + 2) b2) ((nv * 7) + 3) b3) ((nv * 7) + 5) (-1))) 5 (upd (T 5) 0 (((T 5) 0) + (nI (1))))) := by rw [F_0newVolume_T]
  exact AR.retI dc_X0_newVolume_75 rfl e1_0.symm (by rw [e1_1])
def F_0newCradle (nc : Nat) : Int32 := (nI (nc))
def F_0newCradle_T (b0 : Int32) (b1 : Int32) (nc : Nat) (T : Nat → Nat → Int32) : Nat → Nat → Int32 := (tu (tu T 2 (upd (upd (upd (T 2) ((nc * 5) + 0) b0) ((nc * 5) + 1) b1) ((nc * 5) + 2) (-1))) 5 (upd (T 5) 1 (((T 5) 1) + (nI (1)))))
theorem g_X0_newCradle_0_2 : ab_oks M_X0_newCradle [(0, .aload_n 0, 1, 0, 0, 0, .null), (1, .iconst 1, 1, 0, 0, 0, .int (nI (1)))] = true := by decide +kernel
theorem dc_X0_newCradle_2 : decode (AM.bytes M_X0_newCradle) 2 = .ok (.invokevirtual 56, 3) := by decide +kernel
theorem g_X0_newCradle_5_6 : ab_oks M_X0_newCradle [(5, .istore_n 3, 1, 3, 0, 0, .null), (6, .aload_n 0, 1, 0, 0, 0, .null), (7, .getfield 23, 3, 0, 2, 91, .null), (10, .iload_n 3, 1, 3, 0, 0, .null), (11, .iconst 0, 1, 0, 0, 0, .int (nI (0))), (12, .iload_n 1, 1, 1, 0, 0, .null)] = true := by decide +kernel
theorem dc_X0_newCradle_13 : decode (AM.bytes M_X0_newCradle) 13 = .ok (.invokevirtual 42, 3) := by decide +kernel
theorem g_X0_newCradle_16_5 : ab_oks M_X0_newCradle [(16, .aload_n 0, 1, 0, 0, 0, .null), (17, .getfield 23, 3, 0, 2, 91, .null), (20, .iload_n 3, 1, 3, 0, 0, .null), (21, .iconst 1, 1, 0, 0, 0, .int (nI (1))), (22, .iload_n 2, 1, 2, 0, 0, .null)] = true := by decide +kernel
theorem dc_X0_newCradle_23 : decode (AM.bytes M_X0_newCradle) 23 = .ok (.invokevirtual 42, 3) := by decide +kernel
theorem g_X0_newCradle_26_5 : ab_oks M_X0_newCradle [(26, .aload_n 0, 1, 0, 0, 0, .null), (27, .getfield 23, 3, 0, 2, 91, .null), (30, .iload_n 3, 1, 3, 0, 0, .null), (31, .iconst 2, 1, 0, 0, 0, .int (nI (2))), (32, .iconst (-1), 1, 0, 0, 0, .int (-1))] = true := by decide +kernel
theorem dc_X0_newCradle_33 : decode (AM.bytes M_X0_newCradle) 33 = .ok (.invokevirtual 42, 3) := by decide +kernel
theorem g_X0_newCradle_36_5 : ab_oks M_X0_newCradle [(36, .aload_n 0, 1, 0, 0, 0, .null), (37, .getfield 32, 3, 0, 5, 94, .null), (40, .iconst 0, 1, 0, 0, 0, .int (nI (0))), (41, .iconst 1, 1, 0, 0, 0, .int (nI (1))), (42, .iconst 1, 1, 0, 0, 0, .int (nI (1)))] = true := by decide +kernel
theorem dc_X0_newCradle_43 : decode (AM.bytes M_X0_newCradle) 43 = .ok (.invokevirtual 60, 3) := by decide +kernel
theorem g_X0_newCradle_46_1 : ab_oks M_X0_newCradle [(46, .iload_n 3, 1, 3, 0, 0, .null)] = true := by decide +kernel
theorem dc_X0_newCradle_47 : decode (AM.bytes M_X0_newCradle) 47 = .ok (.ireturn, 1) := by decide +kernel
set_option maxRecDepth 100000 in
set_option maxHeartbeats 4000000 in
theorem s_0newCradle {E : AE} (d : Nat) (b0 : Int32) (b1 : Int32) {nv : Nat} {nc : Nat} {nr : Nat} {ne : Nat}  {o0 t0 p0 m0 u0 l0 : List AC} {T K : Nat → Nat → Int32} {os sc : Int32} (hT : TI T nv nc nr ne) (hn4 : nc < 4) : CT E M_X0_newCradle (d + 2) [.ref 4097, .int (b0), .int (b1)] (hp o0 (ar T K os sc) t0 p0 m0 u0 l0) (.inl (some (.int (F_0newCradle nc)))) (hp o0 (ar (F_0newCradle_T b0 b1 nc T) K os sc) t0 p0 m0 u0 l0) 0 0 := by
  obtain ⟨⟨hnv, h12⟩, ⟨hnc, h4⟩, ⟨hnr, h3⟩, ⟨hne, h60⟩, hLT, hHT⟩ := id hT
  refine CT.of (L := [some (.ref 4097), some (.int (b0)), some (.int (b1)), none]) rfl rfl ?_
  refine AR.run g_X0_newCradle_0_2 2 [some (.ref 4097), some (.int (b0)), some (.int (b1)), none] [.int (nI (1)), .ref 4097] _ [] rfl trivial ?_
  refine AR.callV1 (4097) [.int (nI (1))] [] lk_0_56 dc_X0_newCradle_2 rfl rfl (s_0number _ 1 (by omega)) (by first | rfl | (simp only [nI_add, pk_mul]; first | done | rfl)) rfl ?_
  refine AR.top hT.2.1.1 ?_
  refine AR.run g_X0_newCradle_5_6 13 [some (.ref 4097), some (.int (b0)), some (.int (b1)), some (.int (nI (nc)))] [.int (b0), .int (nI (0)), .int (nI (nc)), .ref 4104] _ [] rfl trivial ?_
  refine AR.callV0 (4104) [.int (nI (nc)), .int (nI (0)), .int (b0)] [] lk_0_42 dc_X0_newCradle_13 rfl rfl (s_3putT2 _ nc 0 b0 (by omega) (by omega)) (by first | rfl | (simp only [nI_add, pk_mul]; first | done | rfl)) rfl ?_
  refine AR.cast (h1 := (hp o0 (ar (tu T 2 (upd (T 2) ((nc * 5) + 0) b0)) K os sc) t0 p0 m0 u0 l0)) rfl rfl rfl ?_
  refine AR.run g_X0_newCradle_16_5 23 [some (.ref 4097), some (.int (b0)), some (.int (b1)), some (.int (nI (nc)))] [.int (b1), .int (nI (1)), .int (nI (nc)), .ref 4104] _ [] rfl trivial ?_
  refine AR.callV0 (4104) [.int (nI (nc)), .int (nI (1)), .int (b1)] [] lk_0_42 dc_X0_newCradle_23 rfl rfl (s_3putT2 _ nc 1 b1 (by omega) (by omega)) (by first | rfl | (simp only [nI_add, pk_mul]; first | done | rfl)) rfl ?_
  refine AR.cast (h1 := (hp o0 (ar (tu T 2 (upd (upd (T 2) ((nc * 5) + 0) b0) ((nc * 5) + 1) b1)) K os sc) t0 p0 m0 u0 l0)) rfl rfl rfl ?_
  refine AR.run g_X0_newCradle_26_5 33 [some (.ref 4097), some (.int (b0)), some (.int (b1)), some (.int (nI (nc)))] [.int (-1), .int (nI (2)), .int (nI (nc)), .ref 4104] _ [] rfl trivial ?_
  refine AR.callV0 (4104) [.int (nI (nc)), .int (nI (2)), .int (-1)] [] lk_0_42 dc_X0_newCradle_33 rfl rfl (s_3putT2 _ nc 2 (-1) (by omega) (by omega)) (by first | rfl | (simp only [nI_add, pk_mul]; first | done | rfl)) rfl ?_
  refine AR.cast (h1 := (hp o0 (ar (tu T 2 (upd (upd (upd (T 2) ((nc * 5) + 0) b0) ((nc * 5) + 1) b1) ((nc * 5) + 2) (-1))) K os sc) t0 p0 m0 u0 l0)) rfl rfl rfl ?_
  refine AR.run g_X0_newCradle_36_5 43 [some (.ref 4097), some (.int (b0)), some (.int (b1)), some (.int (nI (nc)))] [.int (nI (1)), .int (nI (1)), .int (nI (0)), .ref 4113] _ [] rfl trivial ?_
  refine AR.callV0 (4113) [.int (nI (0)), .int (nI (1)), .int (nI (1))] [] lk_0_60 dc_X0_newCradle_43 rfl rfl (s_3addT5 _ 1 (nI (1)) (by omega)) (by first | rfl | (simp only [nI_add, pk_mul]; first | done | rfl)) rfl ?_
  refine AR.cast (h1 := (hp o0 (ar (tu (tu T 2 (upd (upd (upd (T 2) ((nc * 5) + 0) b0) ((nc * 5) + 1) b1) ((nc * 5) + 2) (-1))) 5 (upd (T 5) 1 (((T 5) 1) + (nI (1))))) K os sc) t0 p0 m0 u0 l0)) rfl rfl rfl ?_
  refine AR.run g_X0_newCradle_46_1 47 [some (.ref 4097), some (.int (b0)), some (.int (b1)), some (.int (nI (nc)))] [.int (nI (nc))] _ [] rfl trivial ?_
  have e1_0 : F_0newCradle nc = (nI (nc)) := by rw [F_0newCradle]
  have e1_1 : F_0newCradle_T b0 b1 nc T = (tu (tu T 2 (upd (upd (upd (T 2) ((nc * 5) + 0) b0) ((nc * 5) + 1) b1) ((nc * 5) + 2) (-1))) 5 (upd (T 5) 1 (((T 5) 1) + (nI (1))))) := by rw [F_0newCradle_T]
  exact AR.retI dc_X0_newCradle_47 rfl e1_0.symm (by rw [e1_1])
def F_0newCarrier (nr : Nat) : Int32 := (nI (nr))
def F_0newCarrier_T (T : Nat → Nat → Int32) : Nat → Nat → Int32 := (tu T 5 (upd (T 5) 2 (((T 5) 2) + (nI (1)))))
theorem g_X0_newCarrier_0_2 : ab_oks M_X0_newCarrier [(0, .aload_n 0, 1, 0, 0, 0, .null), (1, .iconst 2, 1, 0, 0, 0, .int (nI (2)))] = true := by decide +kernel
theorem dc_X0_newCarrier_2 : decode (AM.bytes M_X0_newCarrier) 2 = .ok (.invokevirtual 56, 3) := by decide +kernel
theorem g_X0_newCarrier_5_6 : ab_oks M_X0_newCarrier [(5, .istore_n 1, 1, 1, 0, 0, .null), (6, .aload_n 0, 1, 0, 0, 0, .null), (7, .getfield 32, 3, 0, 5, 94, .null), (10, .iconst 0, 1, 0, 0, 0, .int (nI (0))), (11, .iconst 2, 1, 0, 0, 0, .int (nI (2))), (12, .iconst 1, 1, 0, 0, 0, .int (nI (1)))] = true := by decide +kernel
theorem dc_X0_newCarrier_13 : decode (AM.bytes M_X0_newCarrier) 13 = .ok (.invokevirtual 60, 3) := by decide +kernel
theorem g_X0_newCarrier_16_1 : ab_oks M_X0_newCarrier [(16, .iload_n 1, 1, 1, 0, 0, .null)] = true := by decide +kernel
theorem dc_X0_newCarrier_17 : decode (AM.bytes M_X0_newCarrier) 17 = .ok (.ireturn, 1) := by decide +kernel
set_option maxRecDepth 100000 in
set_option maxHeartbeats 4000000 in
theorem s_0newCarrier {E : AE} (d : Nat) {nv : Nat} {nc : Nat} {nr : Nat} {ne : Nat}  {o0 t0 p0 m0 u0 l0 : List AC} {T K : Nat → Nat → Int32} {os sc : Int32} (hT : TI T nv nc nr ne) : CT E M_X0_newCarrier (d + 2) [.ref 4097] (hp o0 (ar T K os sc) t0 p0 m0 u0 l0) (.inl (some (.int (F_0newCarrier nr)))) (hp o0 (ar (F_0newCarrier_T T) K os sc) t0 p0 m0 u0 l0) 0 0 := by
  obtain ⟨⟨hnv, h12⟩, ⟨hnc, h4⟩, ⟨hnr, h3⟩, ⟨hne, h60⟩, hLT, hHT⟩ := id hT
  refine CT.of (L := [some (.ref 4097), none]) rfl rfl ?_
  refine AR.run g_X0_newCarrier_0_2 2 [some (.ref 4097), none] [.int (nI (2)), .ref 4097] _ [] rfl trivial ?_
  refine AR.callV1 (4097) [.int (nI (2))] [] lk_0_56 dc_X0_newCarrier_2 rfl rfl (s_0number _ 2 (by omega)) (by first | rfl | (simp only [nI_add, pk_mul]; first | done | rfl)) rfl ?_
  refine AR.top hT.2.2.1.1 ?_
  refine AR.run g_X0_newCarrier_5_6 13 [some (.ref 4097), some (.int (nI (nr)))] [.int (nI (1)), .int (nI (2)), .int (nI (0)), .ref 4113] _ [] rfl trivial ?_
  refine AR.callV0 (4113) [.int (nI (0)), .int (nI (2)), .int (nI (1))] [] lk_0_60 dc_X0_newCarrier_13 rfl rfl (s_3addT5 _ 2 (nI (1)) (by omega)) (by first | rfl | (simp only [nI_add, pk_mul]; first | done | rfl)) rfl ?_
  refine AR.cast (h1 := (hp o0 (ar (tu T 5 (upd (T 5) 2 (((T 5) 2) + (nI (1))))) K os sc) t0 p0 m0 u0 l0)) rfl rfl rfl ?_
  refine AR.run g_X0_newCarrier_16_1 17 [some (.ref 4097), some (.int (nI (nr)))] [.int (nI (nr))] _ [] rfl trivial ?_
  have e1_0 : F_0newCarrier nr = (nI (nr)) := by rw [F_0newCarrier]
  have e1_1 : F_0newCarrier_T T = (tu T 5 (upd (T 5) 2 (((T 5) 2) + (nI (1))))) := by rw [F_0newCarrier_T]
  exact AR.retI dc_X0_newCarrier_17 rfl e1_0.symm (by rw [e1_1])
def F_0startWay (v : Nat) (r : Nat) (T : Nat → Nat → Int32) : Int32 := ((((T 5) 10) * (if 0 ≤ (((T 3) (r * 4 + 0)) - ((T 0) (v * 7 + 0))) then (((T 3) (r * 4 + 0)) - ((T 0) (v * 7 + 0))) else 0 - (((T 3) (r * 4 + 0)) - ((T 0) (v * 7 + 0))))) + (nI (1)))
def F_0startWay_T (v : Nat) (g : Int32) (r : Nat) (ne : Nat) (T : Nat → Nat → Int32) : Nat → Nat → Int32 := (tu (tu (tu (tu T 0 (upd (T 0) ((v * 7) + 6) ((((T 5) 10) * (if 0 ≤ (((T 3) (r * 4 + 0)) - ((T 0) (v * 7 + 0))) then (((T 3) (r * 4 + 0)) - ((T 0) (v * 7 + 0))) else 0 - (((T 3) (r * 4 + 0)) - ((T 0) (v * 7 + 0))))) + (nI (1))))) 3 (upd (upd (upd (upd (T 3) ((r * 4) + 0) ((T 0) (v * 7 + 0))) ((r * 4) + 1) ((((T 5) 10) * (if 0 ≤ (((T 3) (r * 4 + 0)) - ((T 0) (v * 7 + 0))) then (((T 3) (r * 4 + 0)) - ((T 0) (v * 7 + 0))) else 0 - (((T 3) (r * 4 + 0)) - ((T 0) (v * 7 + 0))))) + (nI (1)))) ((r * 4) + 2) (((upd (upd (T 3) ((r * 4) + 0) ((T 0) (v * 7 + 0))) ((r * 4) + 1) ((((T 5) 10) * (if 0 ≤ (((T 3) (r * 4 + 0)) - ((T 0) (v * 7 + 0))) then (((T 3) (r * 4 + 0)) - ((T 0) (v * 7 + 0))) else 0 - (((T 3) (r * 4 + 0)) - ((T 0) (v * 7 + 0))))) + (nI (1)))) ((r * 4) + 2)) + (nI (1)))) ((r * 4) + 3) (((upd (upd (upd (T 3) ((r * 4) + 0) ((T 0) (v * 7 + 0))) ((r * 4) + 1) ((((T 5) 10) * (if 0 ≤ (((T 3) (r * 4 + 0)) - ((T 0) (v * 7 + 0))) then (((T 3) (r * 4 + 0)) - ((T 0) (v * 7 + 0))) else 0 - (((T 3) (r * 4 + 0)) - ((T 0) (v * 7 + 0))))) + (nI (1)))) ((r * 4) + 2) (((upd (upd (T 3) ((r * 4) + 0) ((T 0) (v * 7 + 0))) ((r * 4) + 1) ((((T 5) 10) * (if 0 ≤ (((T 3) (r * 4 + 0)) - ((T 0) (v * 7 + 0))) then (((T 3) (r * 4 + 0)) - ((T 0) (v * 7 + 0))) else 0 - (((T 3) (r * 4 + 0)) - ((T 0) (v * 7 + 0))))) + (nI (1)))) ((r * 4) + 2)) + (nI (1)))) ((r * 4) + 3)) + ((((T 5) 10) * (if 0 ≤ (((T 3) (r * 4 + 0)) - ((T 0) (v * 7 + 0))) then (((T 3) (r * 4 + 0)) - ((T 0) (v * 7 + 0))) else 0 - (((T 3) (r * 4 + 0)) - ((T 0) (v * 7 + 0))))) + (nI (1)))))) 4 (upd (upd (upd (upd (upd (T 4) ((ne * 5) + 0) ((T 5) 3)) ((ne * 5) + 1) (nI (r))) ((ne * 5) + 2) (nI (v))) ((ne * 5) + 3) g) ((ne * 5) + 4) ((((T 5) 10) * (if 0 ≤ (((T 3) (r * 4 + 0)) - ((T 0) (v * 7 + 0))) then (((T 3) (r * 4 + 0)) - ((T 0) (v * 7 + 0))) else 0 - (((T 3) (r * 4 + 0)) - ((T 0) (v * 7 + 0))))) + (nI (1))))) 5 (upd (T 5) 5 (((T 5) 5) + (nI (1)))))
theorem g_X0_startWay_0_3 : ab_oks M_X0_startWay [(0, .aload_n 0, 1, 0, 0, 0, .null), (1, .iload_n 1, 1, 1, 0, 0, .null), (2, .iload_n 3, 1, 3, 0, 0, .null)] = true := by decide +kernel
theorem dc_X0_startWay_3 : decode (AM.bytes M_X0_startWay) 3 = .ok (.invokevirtual 107, 3) := by decide +kernel
theorem g_X0_startWay_6_6 : ab_oks M_X0_startWay [(6, .istore 4, 2, 4, 0, 0, .null), (8, .aload_n 0, 1, 0, 0, 0, .null), (9, .getfield 14, 3, 0, 0, 89, .null), (12, .iload_n 1, 1, 1, 0, 0, .null), (13, .bipush 6, 2, 0, 0, 0, .int (nI (6))), (15, .iload 4, 2, 4, 0, 0, .null)] = true := by decide +kernel
theorem dc_X0_startWay_17 : decode (AM.bytes M_X0_startWay) 17 = .ok (.invokevirtual 42, 3) := by decide +kernel
theorem g_X0_startWay_20_8 : ab_oks M_X0_startWay [(20, .aload_n 0, 1, 0, 0, 0, .null), (21, .getfield 26, 3, 0, 3, 92, .null), (24, .iload_n 3, 1, 3, 0, 0, .null), (25, .iconst 0, 1, 0, 0, 0, .int (nI (0))), (26, .aload_n 0, 1, 0, 0, 0, .null), (27, .getfield 14, 3, 0, 0, 89, .null), (30, .iload_n 1, 1, 1, 0, 0, .null), (31, .iconst 0, 1, 0, 0, 0, .int (nI (0)))] = true := by decide +kernel
theorem dc_X0_startWay_32 : decode (AM.bytes M_X0_startWay) 32 = .ok (.invokevirtual 45, 3) := by decide +kernel
theorem dc_X0_startWay_35 : decode (AM.bytes M_X0_startWay) 35 = .ok (.invokevirtual 42, 3) := by decide +kernel
theorem g_X0_startWay_38_5 : ab_oks M_X0_startWay [(38, .aload_n 0, 1, 0, 0, 0, .null), (39, .getfield 26, 3, 0, 3, 92, .null), (42, .iload_n 3, 1, 3, 0, 0, .null), (43, .iconst 1, 1, 0, 0, 0, .int (nI (1))), (44, .iload 4, 2, 4, 0, 0, .null)] = true := by decide +kernel
theorem dc_X0_startWay_46 : decode (AM.bytes M_X0_startWay) 46 = .ok (.invokevirtual 42, 3) := by decide +kernel
theorem g_X0_startWay_49_5 : ab_oks M_X0_startWay [(49, .aload_n 0, 1, 0, 0, 0, .null), (50, .getfield 26, 3, 0, 3, 92, .null), (53, .iload_n 3, 1, 3, 0, 0, .null), (54, .iconst 2, 1, 0, 0, 0, .int (nI (2))), (55, .iconst 1, 1, 0, 0, 0, .int (nI (1)))] = true := by decide +kernel
theorem dc_X0_startWay_56 : decode (AM.bytes M_X0_startWay) 56 = .ok (.invokevirtual 60, 3) := by decide +kernel
theorem g_X0_startWay_59_5 : ab_oks M_X0_startWay [(59, .aload_n 0, 1, 0, 0, 0, .null), (60, .getfield 26, 3, 0, 3, 92, .null), (63, .iload_n 3, 1, 3, 0, 0, .null), (64, .iconst 3, 1, 0, 0, 0, .int (nI (3))), (65, .iload 4, 2, 4, 0, 0, .null)] = true := by decide +kernel
theorem dc_X0_startWay_67 : decode (AM.bytes M_X0_startWay) 67 = .ok (.invokevirtual 60, 3) := by decide +kernel
theorem g_X0_startWay_70_2 : ab_oks M_X0_startWay [(70, .aload_n 0, 1, 0, 0, 0, .null), (71, .iconst 5, 1, 0, 0, 0, .int (nI (5)))] = true := by decide +kernel
theorem dc_X0_startWay_72 : decode (AM.bytes M_X0_startWay) 72 = .ok (.invokevirtual 56, 3) := by decide +kernel
theorem g_X0_startWay_75_7 : ab_oks M_X0_startWay [(75, .istore 5, 2, 5, 0, 0, .null), (77, .aload_n 0, 1, 0, 0, 0, .null), (78, .getfield 29, 3, 0, 4, 93, .null), (81, .iload 5, 2, 5, 0, 0, .null), (83, .iconst 0, 1, 0, 0, 0, .int (nI (0))), (84, .aload_n 0, 1, 0, 0, 0, .null), (85, .iconst 3, 1, 0, 0, 0, .int (nI (3)))] = true := by decide +kernel
theorem dc_X0_startWay_86 : decode (AM.bytes M_X0_startWay) 86 = .ok (.invokevirtual 56, 3) := by decide +kernel
theorem dc_X0_startWay_89 : decode (AM.bytes M_X0_startWay) 89 = .ok (.invokevirtual 42, 3) := by decide +kernel
theorem g_X0_startWay_92_5 : ab_oks M_X0_startWay [(92, .aload_n 0, 1, 0, 0, 0, .null), (93, .getfield 29, 3, 0, 4, 93, .null), (96, .iload 5, 2, 5, 0, 0, .null), (98, .iconst 1, 1, 0, 0, 0, .int (nI (1))), (99, .iload_n 3, 1, 3, 0, 0, .null)] = true := by decide +kernel
theorem dc_X0_startWay_100 : decode (AM.bytes M_X0_startWay) 100 = .ok (.invokevirtual 42, 3) := by decide +kernel
theorem g_X0_startWay_103_5 : ab_oks M_X0_startWay [(103, .aload_n 0, 1, 0, 0, 0, .null), (104, .getfield 29, 3, 0, 4, 93, .null), (107, .iload 5, 2, 5, 0, 0, .null), (109, .iconst 2, 1, 0, 0, 0, .int (nI (2))), (110, .iload_n 1, 1, 1, 0, 0, .null)] = true := by decide +kernel
theorem dc_X0_startWay_111 : decode (AM.bytes M_X0_startWay) 111 = .ok (.invokevirtual 42, 3) := by decide +kernel
theorem g_X0_startWay_114_5 : ab_oks M_X0_startWay [(114, .aload_n 0, 1, 0, 0, 0, .null), (115, .getfield 29, 3, 0, 4, 93, .null), (118, .iload 5, 2, 5, 0, 0, .null), (120, .iconst 3, 1, 0, 0, 0, .int (nI (3))), (121, .iload_n 2, 1, 2, 0, 0, .null)] = true := by decide +kernel
theorem dc_X0_startWay_122 : decode (AM.bytes M_X0_startWay) 122 = .ok (.invokevirtual 42, 3) := by decide +kernel
theorem g_X0_startWay_125_5 : ab_oks M_X0_startWay [(125, .aload_n 0, 1, 0, 0, 0, .null), (126, .getfield 29, 3, 0, 4, 93, .null), (129, .iload 5, 2, 5, 0, 0, .null), (131, .iconst 4, 1, 0, 0, 0, .int (nI (4))), (132, .iload 4, 2, 4, 0, 0, .null)] = true := by decide +kernel
theorem dc_X0_startWay_134 : decode (AM.bytes M_X0_startWay) 134 = .ok (.invokevirtual 42, 3) := by decide +kernel
theorem g_X0_startWay_137_5 : ab_oks M_X0_startWay [(137, .aload_n 0, 1, 0, 0, 0, .null), (138, .getfield 32, 3, 0, 5, 94, .null), (141, .iconst 0, 1, 0, 0, 0, .int (nI (0))), (142, .iconst 5, 1, 0, 0, 0, .int (nI (5))), (143, .iconst 1, 1, 0, 0, 0, .int (nI (1)))] = true := by decide +kernel
theorem dc_X0_startWay_144 : decode (AM.bytes M_X0_startWay) 144 = .ok (.invokevirtual 60, 3) := by decide +kernel
theorem g_X0_startWay_147_1 : ab_oks M_X0_startWay [(147, .iload 4, 2, 4, 0, 0, .null)] = true := by decide +kernel
theorem dc_X0_startWay_149 : decode (AM.bytes M_X0_startWay) 149 = .ok (.ireturn, 1) := by decide +kernel
set_option maxRecDepth 100000 in
set_option maxHeartbeats 4000000 in
theorem s_0startWay {E : AE} (d : Nat) (v : Nat) (g : Int32) (r : Nat) {nv : Nat} {nc : Nat} {nr : Nat} {ne : Nat}  {o0 t0 p0 m0 u0 l0 : List AC} {T K : Nat → Nat → Int32} {os sc : Int32} (hT : TI T nv nc nr ne) (hv : v < nv) (hr : r < 3) (hne60 : ne < 60) : CT E M_X0_startWay (d + 3) [.ref 4097, .int (nI (v)), .int (g), .int (nI (r))] (hp o0 (ar T K os sc) t0 p0 m0 u0 l0) (.inl (some (.int (F_0startWay v r T)))) (hp o0 (ar (F_0startWay_T v g r ne T) K os sc) t0 p0 m0 u0 l0) 0 0 := by
  obtain ⟨⟨hnv, h12⟩, ⟨hnc, h4⟩, ⟨hnr, h3⟩, ⟨hne, h60⟩, hLT, hHT⟩ := id hT
  refine CT.of (L := [some (.ref 4097), some (.int (nI (v))), some (.int (g)), some (.int (nI (r))), none, none]) rfl rfl ?_
  refine AR.run g_X0_startWay_0_3 3 [some (.ref 4097), some (.int (nI (v))), some (.int (g)), some (.int (nI (r))), none, none] [.int (nI (r)), .int (nI (v)), .ref 4097] _ [] rfl trivial ?_
  refine AR.callV1 (4097) [.int (nI (v)), .int (nI (r))] [] lk_0_107 dc_X0_startWay_3 rfl rfl (s_0minutesOfWay _ v r (by omega) (by omega)) (by first | rfl | (simp only [nI_add, pk_mul]; first | done | rfl)) rfl ?_
  refine AR.run g_X0_startWay_6_6 17 [some (.ref 4097), some (.int (nI (v))), some (.int (g)), some (.int (nI (r))), some (.int ((((T 5) 10) * (if 0 ≤ (((T 3) (r * 4 + 0)) - ((T 0) (v * 7 + 0))) then (((T 3) (r * 4 + 0)) - ((T 0) (v * 7 + 0))) else 0 - (((T 3) (r * 4 + 0)) - ((T 0) (v * 7 + 0))))) + (nI (1)))), none] [.int ((((T 5) 10) * (if 0 ≤ (((T 3) (r * 4 + 0)) - ((T 0) (v * 7 + 0))) then (((T 3) (r * 4 + 0)) - ((T 0) (v * 7 + 0))) else 0 - (((T 3) (r * 4 + 0)) - ((T 0) (v * 7 + 0))))) + (nI (1))), .int (nI (6)), .int (nI (v)), .ref 4098] _ [] rfl trivial ?_
  refine AR.callV0 (4098) [.int (nI (v)), .int (nI (6)), .int ((((T 5) 10) * (if 0 ≤ (((T 3) (r * 4 + 0)) - ((T 0) (v * 7 + 0))) then (((T 3) (r * 4 + 0)) - ((T 0) (v * 7 + 0))) else 0 - (((T 3) (r * 4 + 0)) - ((T 0) (v * 7 + 0))))) + (nI (1)))] [] lk_0_42 dc_X0_startWay_17 rfl rfl (s_3putT0 _ v 6 ((((T 5) 10) * (if 0 ≤ (((T 3) (r * 4 + 0)) - ((T 0) (v * 7 + 0))) then (((T 3) (r * 4 + 0)) - ((T 0) (v * 7 + 0))) else 0 - (((T 3) (r * 4 + 0)) - ((T 0) (v * 7 + 0))))) + (nI (1))) (by omega) (by omega)) (by first | rfl | (simp only [nI_add, pk_mul]; first | done | rfl)) rfl ?_
  refine AR.cast (h1 := (hp o0 (ar (tu T 0 (upd (T 0) ((v * 7) + 6) ((((T 5) 10) * (if 0 ≤ (((T 3) (r * 4 + 0)) - ((T 0) (v * 7 + 0))) then (((T 3) (r * 4 + 0)) - ((T 0) (v * 7 + 0))) else 0 - (((T 3) (r * 4 + 0)) - ((T 0) (v * 7 + 0))))) + (nI (1))))) K os sc) t0 p0 m0 u0 l0)) rfl rfl rfl ?_
  refine AR.run g_X0_startWay_20_8 32 [some (.ref 4097), some (.int (nI (v))), some (.int (g)), some (.int (nI (r))), some (.int ((((T 5) 10) * (if 0 ≤ (((T 3) (r * 4 + 0)) - ((T 0) (v * 7 + 0))) then (((T 3) (r * 4 + 0)) - ((T 0) (v * 7 + 0))) else 0 - (((T 3) (r * 4 + 0)) - ((T 0) (v * 7 + 0))))) + (nI (1)))), none] [.int (nI (0)), .int (nI (v)), .ref 4098, .int (nI (0)), .int (nI (r)), .ref 4107] _ [] rfl trivial ?_
  refine AR.callV1 (4098) [.int (nI (v)), .int (nI (0))] [.int (nI (0)), .int (nI (r)), .ref 4107] lk_0_45 dc_X0_startWay_32 rfl rfl (s_3atT0 _ v 0 (by omega) (by omega)) (by first | rfl | (simp only [nI_add, pk_mul]; first | done | rfl)) rfl ?_
  refine AR.top (y := (T 0) (v * 7 + 0)) (by show (upd (T 0) ((v * 7) + 6) ((((T 5) 10) * (if 0 ≤ (((T 3) (r * 4 + 0)) - ((T 0) (v * 7 + 0))) then (((T 3) (r * 4 + 0)) - ((T 0) (v * 7 + 0))) else 0 - (((T 3) (r * 4 + 0)) - ((T 0) (v * 7 + 0))))) + (nI (1)))) (v * 7 + 0) = _; rw [rn (by omega)]) ?_
  refine AR.callV0 (4107) [.int (nI (r)), .int (nI (0)), .int ((T 0) (v * 7 + 0))] [] lk_0_42 dc_X0_startWay_35 rfl rfl (s_3putT3 _ r 0 ((T 0) (v * 7 + 0)) (by omega) (by omega)) (by first | rfl | (simp only [nI_add, pk_mul]; first | done | rfl)) rfl ?_
  refine AR.cast (h1 := (hp o0 (ar (tu (tu T 0 (upd (T 0) ((v * 7) + 6) ((((T 5) 10) * (if 0 ≤ (((T 3) (r * 4 + 0)) - ((T 0) (v * 7 + 0))) then (((T 3) (r * 4 + 0)) - ((T 0) (v * 7 + 0))) else 0 - (((T 3) (r * 4 + 0)) - ((T 0) (v * 7 + 0))))) + (nI (1))))) 3 (upd (T 3) ((r * 4) + 0) ((T 0) (v * 7 + 0)))) K os sc) t0 p0 m0 u0 l0)) rfl rfl rfl ?_
  refine AR.run g_X0_startWay_38_5 46 [some (.ref 4097), some (.int (nI (v))), some (.int (g)), some (.int (nI (r))), some (.int ((((T 5) 10) * (if 0 ≤ (((T 3) (r * 4 + 0)) - ((T 0) (v * 7 + 0))) then (((T 3) (r * 4 + 0)) - ((T 0) (v * 7 + 0))) else 0 - (((T 3) (r * 4 + 0)) - ((T 0) (v * 7 + 0))))) + (nI (1)))), none] [.int ((((T 5) 10) * (if 0 ≤ (((T 3) (r * 4 + 0)) - ((T 0) (v * 7 + 0))) then (((T 3) (r * 4 + 0)) - ((T 0) (v * 7 + 0))) else 0 - (((T 3) (r * 4 + 0)) - ((T 0) (v * 7 + 0))))) + (nI (1))), .int (nI (1)), .int (nI (r)), .ref 4107] _ [] rfl trivial ?_
  refine AR.callV0 (4107) [.int (nI (r)), .int (nI (1)), .int ((((T 5) 10) * (if 0 ≤ (((T 3) (r * 4 + 0)) - ((T 0) (v * 7 + 0))) then (((T 3) (r * 4 + 0)) - ((T 0) (v * 7 + 0))) else 0 - (((T 3) (r * 4 + 0)) - ((T 0) (v * 7 + 0))))) + (nI (1)))] [] lk_0_42 dc_X0_startWay_46 rfl rfl (s_3putT3 _ r 1 ((((T 5) 10) * (if 0 ≤ (((T 3) (r * 4 + 0)) - ((T 0) (v * 7 + 0))) then (((T 3) (r * 4 + 0)) - ((T 0) (v * 7 + 0))) else 0 - (((T 3) (r * 4 + 0)) - ((T 0) (v * 7 + 0))))) + (nI (1))) (by omega) (by omega)) (by first | rfl | (simp only [nI_add, pk_mul]; first | done | rfl)) rfl ?_
  refine AR.cast (h1 := (hp o0 (ar (tu (tu T 0 (upd (T 0) ((v * 7) + 6) ((((T 5) 10) * (if 0 ≤ (((T 3) (r * 4 + 0)) - ((T 0) (v * 7 + 0))) then (((T 3) (r * 4 + 0)) - ((T 0) (v * 7 + 0))) else 0 - (((T 3) (r * 4 + 0)) - ((T 0) (v * 7 + 0))))) + (nI (1))))) 3 (upd (upd (T 3) ((r * 4) + 0) ((T 0) (v * 7 + 0))) ((r * 4) + 1) ((((T 5) 10) * (if 0 ≤ (((T 3) (r * 4 + 0)) - ((T 0) (v * 7 + 0))) then (((T 3) (r * 4 + 0)) - ((T 0) (v * 7 + 0))) else 0 - (((T 3) (r * 4 + 0)) - ((T 0) (v * 7 + 0))))) + (nI (1))))) K os sc) t0 p0 m0 u0 l0)) rfl rfl rfl ?_
  refine AR.run g_X0_startWay_49_5 56 [some (.ref 4097), some (.int (nI (v))), some (.int (g)), some (.int (nI (r))), some (.int ((((T 5) 10) * (if 0 ≤ (((T 3) (r * 4 + 0)) - ((T 0) (v * 7 + 0))) then (((T 3) (r * 4 + 0)) - ((T 0) (v * 7 + 0))) else 0 - (((T 3) (r * 4 + 0)) - ((T 0) (v * 7 + 0))))) + (nI (1)))), none] [.int (nI (1)), .int (nI (2)), .int (nI (r)), .ref 4107] _ [] rfl trivial ?_
  refine AR.callV0 (4107) [.int (nI (r)), .int (nI (2)), .int (nI (1))] [] lk_0_60 dc_X0_startWay_56 rfl rfl (s_3addT3 _ r 2 (nI (1)) (by omega) (by omega)) (by first | rfl | (simp only [nI_add, pk_mul]; first | done | rfl)) rfl ?_
  refine AR.cast (h1 := (hp o0 (ar (tu (tu T 0 (upd (T 0) ((v * 7) + 6) ((((T 5) 10) * (if 0 ≤ (((T 3) (r * 4 + 0)) - ((T 0) (v * 7 + 0))) then (((T 3) (r * 4 + 0)) - ((T 0) (v * 7 + 0))) else 0 - (((T 3) (r * 4 + 0)) - ((T 0) (v * 7 + 0))))) + (nI (1))))) 3 (upd (upd (upd (T 3) ((r * 4) + 0) ((T 0) (v * 7 + 0))) ((r * 4) + 1) ((((T 5) 10) * (if 0 ≤ (((T 3) (r * 4 + 0)) - ((T 0) (v * 7 + 0))) then (((T 3) (r * 4 + 0)) - ((T 0) (v * 7 + 0))) else 0 - (((T 3) (r * 4 + 0)) - ((T 0) (v * 7 + 0))))) + (nI (1)))) ((r * 4) + 2) (((upd (upd (T 3) ((r * 4) + 0) ((T 0) (v * 7 + 0))) ((r * 4) + 1) ((((T 5) 10) * (if 0 ≤ (((T 3) (r * 4 + 0)) - ((T 0) (v * 7 + 0))) then (((T 3) (r * 4 + 0)) - ((T 0) (v * 7 + 0))) else 0 - (((T 3) (r * 4 + 0)) - ((T 0) (v * 7 + 0))))) + (nI (1)))) ((r * 4) + 2)) + (nI (1))))) K os sc) t0 p0 m0 u0 l0)) rfl rfl rfl ?_
  refine AR.run g_X0_startWay_59_5 67 [some (.ref 4097), some (.int (nI (v))), some (.int (g)), some (.int (nI (r))), some (.int ((((T 5) 10) * (if 0 ≤ (((T 3) (r * 4 + 0)) - ((T 0) (v * 7 + 0))) then (((T 3) (r * 4 + 0)) - ((T 0) (v * 7 + 0))) else 0 - (((T 3) (r * 4 + 0)) - ((T 0) (v * 7 + 0))))) + (nI (1)))), none] [.int ((((T 5) 10) * (if 0 ≤ (((T 3) (r * 4 + 0)) - ((T 0) (v * 7 + 0))) then (((T 3) (r * 4 + 0)) - ((T 0) (v * 7 + 0))) else 0 - (((T 3) (r * 4 + 0)) - ((T 0) (v * 7 + 0))))) + (nI (1))), .int (nI (3)), .int (nI (r)), .ref 4107] _ [] rfl trivial ?_
  refine AR.callV0 (4107) [.int (nI (r)), .int (nI (3)), .int ((((T 5) 10) * (if 0 ≤ (((T 3) (r * 4 + 0)) - ((T 0) (v * 7 + 0))) then (((T 3) (r * 4 + 0)) - ((T 0) (v * 7 + 0))) else 0 - (((T 3) (r * 4 + 0)) - ((T 0) (v * 7 + 0))))) + (nI (1)))] [] lk_0_60 dc_X0_startWay_67 rfl rfl (s_3addT3 _ r 3 ((((T 5) 10) * (if 0 ≤ (((T 3) (r * 4 + 0)) - ((T 0) (v * 7 + 0))) then (((T 3) (r * 4 + 0)) - ((T 0) (v * 7 + 0))) else 0 - (((T 3) (r * 4 + 0)) - ((T 0) (v * 7 + 0))))) + (nI (1))) (by omega) (by omega)) (by first | rfl | (simp only [nI_add, pk_mul]; first | done | rfl)) rfl ?_
  refine AR.cast (h1 := (hp o0 (ar (tu (tu T 0 (upd (T 0) ((v * 7) + 6) ((((T 5) 10) * (if 0 ≤ (((T 3) (r * 4 + 0)) - ((T 0) (v * 7 + 0))) then (((T 3) (r * 4 + 0)) - ((T 0) (v * 7 + 0))) else 0 - (((T 3) (r * 4 + 0)) - ((T 0) (v * 7 + 0))))) + (nI (1))))) 3 (upd (upd (upd (upd (T 3) ((r * 4) + 0) ((T 0) (v * 7 + 0))) ((r * 4) + 1) ((((T 5) 10) * (if 0 ≤ (((T 3) (r * 4 + 0)) - ((T 0) (v * 7 + 0))) then (((T 3) (r * 4 + 0)) - ((T 0) (v * 7 + 0))) else 0 - (((T 3) (r * 4 + 0)) - ((T 0) (v * 7 + 0))))) + (nI (1)))) ((r * 4) + 2) (((upd (upd (T 3) ((r * 4) + 0) ((T 0) (v * 7 + 0))) ((r * 4) + 1) ((((T 5) 10) * (if 0 ≤ (((T 3) (r * 4 + 0)) - ((T 0) (v * 7 + 0))) then (((T 3) (r * 4 + 0)) - ((T 0) (v * 7 + 0))) else 0 - (((T 3) (r * 4 + 0)) - ((T 0) (v * 7 + 0))))) + (nI (1)))) ((r * 4) + 2)) + (nI (1)))) ((r * 4) + 3) (((upd (upd (upd (T 3) ((r * 4) + 0) ((T 0) (v * 7 + 0))) ((r * 4) + 1) ((((T 5) 10) * (if 0 ≤ (((T 3) (r * 4 + 0)) - ((T 0) (v * 7 + 0))) then (((T 3) (r * 4 + 0)) - ((T 0) (v * 7 + 0))) else 0 - (((T 3) (r * 4 + 0)) - ((T 0) (v * 7 + 0))))) + (nI (1)))) ((r * 4) + 2) (((upd (upd (T 3) ((r * 4) + 0) ((T 0) (v * 7 + 0))) ((r * 4) + 1) ((((T 5) 10) * (if 0 ≤ (((T 3) (r * 4 + 0)) - ((T 0) (v * 7 + 0))) then (((T 3) (r * 4 + 0)) - ((T 0) (v * 7 + 0))) else 0 - (((T 3) (r * 4 + 0)) - ((T 0) (v * 7 + 0))))) + (nI (1)))) ((r * 4) + 2)) + (nI (1)))) ((r * 4) + 3)) + ((((T 5) 10) * (if 0 ≤ (((T 3) (r * 4 + 0)) - ((T 0) (v * 7 + 0))) then (((T 3) (r * 4 + 0)) - ((T 0) (v * 7 + 0))) else 0 - (((T 3) (r * 4 + 0)) - ((T 0) (v * 7 + 0))))) + (nI (1)))))) K os sc) t0 p0 m0 u0 l0)) rfl rfl rfl ?_
  refine AR.run g_X0_startWay_70_2 72 [some (.ref 4097), some (.int (nI (v))), some (.int (g)), some (.int (nI (r))), some (.int ((((T 5) 10) * (if 0 ≤ (((T 3) (r * 4 + 0)) - ((T 0) (v * 7 + 0))) then (((T 3) (r * 4 + 0)) - ((T 0) (v * 7 + 0))) else 0 - (((T 3) (r * 4 + 0)) - ((T 0) (v * 7 + 0))))) + (nI (1)))), none] [.int (nI (5)), .ref 4097] _ [] rfl trivial ?_
  refine AR.callV1 (4097) [.int (nI (5))] [] lk_0_56 dc_X0_startWay_72 rfl rfl (s_0number _ 5 (by omega)) (by first | rfl | (simp only [nI_add, pk_mul]; first | done | rfl)) rfl ?_
  refine AR.top (y := (T 5) 5) rfl ?_
  refine AR.top hT.2.2.2.1.1 ?_
  refine AR.run g_X0_startWay_75_7 86 [some (.ref 4097), some (.int (nI (v))), some (.int (g)), some (.int (nI (r))), some (.int ((((T 5) 10) * (if 0 ≤ (((T 3) (r * 4 + 0)) - ((T 0) (v * 7 + 0))) then (((T 3) (r * 4 + 0)) - ((T 0) (v * 7 + 0))) else 0 - (((T 3) (r * 4 + 0)) - ((T 0) (v * 7 + 0))))) + (nI (1)))), some (.int (nI (ne)))] [.int (nI (3)), .ref 4097, .int (nI (0)), .int (nI (ne)), .ref 4110] _ [] rfl trivial ?_
  refine AR.callV1 (4097) [.int (nI (3))] [.int (nI (0)), .int (nI (ne)), .ref 4110] lk_0_56 dc_X0_startWay_86 rfl rfl (s_0number _ 3 (by omega)) (by first | rfl | (simp only [nI_add, pk_mul]; first | done | rfl)) rfl ?_
  refine AR.top (y := (T 5) 3) rfl ?_
  refine AR.callV0 (4110) [.int (nI (ne)), .int (nI (0)), .int ((T 5) 3)] [] lk_0_42 dc_X0_startWay_89 rfl rfl (s_3putT4 _ ne 0 ((T 5) 3) (by omega) (by omega)) (by first | rfl | (simp only [nI_add, pk_mul]; first | done | rfl)) rfl ?_
  refine AR.cast (h1 := (hp o0 (ar (tu (tu (tu T 0 (upd (T 0) ((v * 7) + 6) ((((T 5) 10) * (if 0 ≤ (((T 3) (r * 4 + 0)) - ((T 0) (v * 7 + 0))) then (((T 3) (r * 4 + 0)) - ((T 0) (v * 7 + 0))) else 0 - (((T 3) (r * 4 + 0)) - ((T 0) (v * 7 + 0))))) + (nI (1))))) 3 (upd (upd (upd (upd (T 3) ((r * 4) + 0) ((T 0) (v * 7 + 0))) ((r * 4) + 1) ((((T 5) 10) * (if 0 ≤ (((T 3) (r * 4 + 0)) - ((T 0) (v * 7 + 0))) then (((T 3) (r * 4 + 0)) - ((T 0) (v * 7 + 0))) else 0 - (((T 3) (r * 4 + 0)) - ((T 0) (v * 7 + 0))))) + (nI (1)))) ((r * 4) + 2) (((upd (upd (T 3) ((r * 4) + 0) ((T 0) (v * 7 + 0))) ((r * 4) + 1) ((((T 5) 10) * (if 0 ≤ (((T 3) (r * 4 + 0)) - ((T 0) (v * 7 + 0))) then (((T 3) (r * 4 + 0)) - ((T 0) (v * 7 + 0))) else 0 - (((T 3) (r * 4 + 0)) - ((T 0) (v * 7 + 0))))) + (nI (1)))) ((r * 4) + 2)) + (nI (1)))) ((r * 4) + 3) (((upd (upd (upd (T 3) ((r * 4) + 0) ((T 0) (v * 7 + 0))) ((r * 4) + 1) ((((T 5) 10) * (if 0 ≤ (((T 3) (r * 4 + 0)) - ((T 0) (v * 7 + 0))) then (((T 3) (r * 4 + 0)) - ((T 0) (v * 7 + 0))) else 0 - (((T 3) (r * 4 + 0)) - ((T 0) (v * 7 + 0))))) + (nI (1)))) ((r * 4) + 2) (((upd (upd (T 3) ((r * 4) + 0) ((T 0) (v * 7 + 0))) ((r * 4) + 1) ((((T 5) 10) * (if 0 ≤ (((T 3) (r * 4 + 0)) - ((T 0) (v * 7 + 0))) then (((T 3) (r * 4 + 0)) - ((T 0) (v * 7 + 0))) else 0 - (((T 3) (r * 4 + 0)) - ((T 0) (v * 7 + 0))))) + (nI (1)))) ((r * 4) + 2)) + (nI (1)))) ((r * 4) + 3)) + ((((T 5) 10) * (if 0 ≤ (((T 3) (r * 4 + 0)) - ((T 0) (v * 7 + 0))) then (((T 3) (r * 4 + 0)) - ((T 0) (v * 7 + 0))) else 0 - (((T 3) (r * 4 + 0)) - ((T 0) (v * 7 + 0))))) + (nI (1)))))) 4 (upd (T 4) ((ne * 5) + 0) ((T 5) 3))) K os sc) t0 p0 m0 u0 l0)) rfl rfl rfl ?_
  refine AR.run g_X0_startWay_92_5 100 [some (.ref 4097), some (.int (nI (v))), some (.int (g)), some (.int (nI (r))), some (.int ((((T 5) 10) * (if 0 ≤ (((T 3) (r * 4 + 0)) - ((T 0) (v * 7 + 0))) then (((T 3) (r * 4 + 0)) - ((T 0) (v * 7 + 0))) else 0 - (((T 3) (r * 4 + 0)) - ((T 0) (v * 7 + 0))))) + (nI (1)))), some (.int (nI (ne)))] [.int (nI (r)), .int (nI (1)), .int (nI (ne)), .ref 4110] _ [] rfl trivial ?_
  refine AR.callV0 (4110) [.int (nI (ne)), .int (nI (1)), .int (nI (r))] [] lk_0_42 dc_X0_startWay_100 rfl rfl (s_3putT4 _ ne 1 (nI (r)) (by omega) (by omega)) (by first | rfl | (simp only [nI_add, pk_mul]; first | done | rfl)) rfl ?_
  refine AR.cast (h1 := (hp o0 (ar (tu (tu (tu T 0 (upd (T 0) ((v * 7) + 6) ((((T 5) 10) * (if 0 ≤ (((T 3) (r * 4 + 0)) - ((T 0) (v * 7 + 0))) then (((T 3) (r * 4 + 0)) - ((T 0) (v * 7 + 0))) else 0 - (((T 3) (r * 4 + 0)) - ((T 0) (v * 7 + 0))))) + (nI (1))))) 3 (upd (upd (upd (upd (T 3) ((r * 4) + 0) ((T 0) (v * 7 + 0))) ((r * 4) + 1) ((((T 5) 10) * (if 0 ≤ (((T 3) (r * 4 + 0)) - ((T 0) (v * 7 + 0))) then (((T 3) (r * 4 + 0)) - ((T 0) (v * 7 + 0))) else 0 - (((T 3) (r * 4 + 0)) - ((T 0) (v * 7 + 0))))) + (nI (1)))) ((r * 4) + 2) (((upd (upd (T 3) ((r * 4) + 0) ((T 0) (v * 7 + 0))) ((r * 4) + 1) ((((T 5) 10) * (if 0 ≤ (((T 3) (r * 4 + 0)) - ((T 0) (v * 7 + 0))) then (((T 3) (r * 4 + 0)) - ((T 0) (v * 7 + 0))) else 0 - (((T 3) (r * 4 + 0)) - ((T 0) (v * 7 + 0))))) + (nI (1)))) ((r * 4) + 2)) + (nI (1)))) ((r * 4) + 3) (((upd (upd (upd (T 3) ((r * 4) + 0) ((T 0) (v * 7 + 0))) ((r * 4) + 1) ((((T 5) 10) * (if 0 ≤ (((T 3) (r * 4 + 0)) - ((T 0) (v * 7 + 0))) then (((T 3) (r * 4 + 0)) - ((T 0) (v * 7 + 0))) else 0 - (((T 3) (r * 4 + 0)) - ((T 0) (v * 7 + 0))))) + (nI (1)))) ((r * 4) + 2) (((upd (upd (T 3) ((r * 4) + 0) ((T 0) (v * 7 + 0))) ((r * 4) + 1) ((((T 5) 10) * (if 0 ≤ (((T 3) (r * 4 + 0)) - ((T 0) (v * 7 + 0))) then (((T 3) (r * 4 + 0)) - ((T 0) (v * 7 + 0))) else 0 - (((T 3) (r * 4 + 0)) - ((T 0) (v * 7 + 0))))) + (nI (1)))) ((r * 4) + 2)) + (nI (1)))) ((r * 4) + 3)) + ((((T 5) 10) * (if 0 ≤ (((T 3) (r * 4 + 0)) - ((T 0) (v * 7 + 0))) then (((T 3) (r * 4 + 0)) - ((T 0) (v * 7 + 0))) else 0 - (((T 3) (r * 4 + 0)) - ((T 0) (v * 7 + 0))))) + (nI (1)))))) 4 (upd (upd (T 4) ((ne * 5) + 0) ((T 5) 3)) ((ne * 5) + 1) (nI (r)))) K os sc) t0 p0 m0 u0 l0)) rfl rfl rfl ?_
  refine AR.run g_X0_startWay_103_5 111 [some (.ref 4097), some (.int (nI (v))), some (.int (g)), some (.int (nI (r))), some (.int ((((T 5) 10) * (if 0 ≤ (((T 3) (r * 4 + 0)) - ((T 0) (v * 7 + 0))) then (((T 3) (r * 4 + 0)) - ((T 0) (v * 7 + 0))) else 0 - (((T 3) (r * 4 + 0)) - ((T 0) (v * 7 + 0))))) + (nI (1)))), some (.int (nI (ne)))] [.int (nI (v)), .int (nI (2)), .int (nI (ne)), .ref 4110] _ [] rfl trivial ?_
  refine AR.callV0 (4110) [.int (nI (ne)), .int (nI (2)), .int (nI (v))] [] lk_0_42 dc_X0_startWay_111 rfl rfl (s_3putT4 _ ne 2 (nI (v)) (by omega) (by omega)) (by first | rfl | (simp only [nI_add, pk_mul]; first | done | rfl)) rfl ?_
  refine AR.cast (h1 := (hp o0 (ar (tu (tu (tu T 0 (upd (T 0) ((v * 7) + 6) ((((T 5) 10) * (if 0 ≤ (((T 3) (r * 4 + 0)) - ((T 0) (v * 7 + 0))) then (((T 3) (r * 4 + 0)) - ((T 0) (v * 7 + 0))) else 0 - (((T 3) (r * 4 + 0)) - ((T 0) (v * 7 + 0))))) + (nI (1))))) 3 (upd (upd (upd (upd (T 3) ((r * 4) + 0) ((T 0) (v * 7 + 0))) ((r * 4) + 1) ((((T 5) 10) * (if 0 ≤ (((T 3) (r * 4 + 0)) - ((T 0) (v * 7 + 0))) then (((T 3) (r * 4 + 0)) - ((T 0) (v * 7 + 0))) else 0 - (((T 3) (r * 4 + 0)) - ((T 0) (v * 7 + 0))))) + (nI (1)))) ((r * 4) + 2) (((upd (upd (T 3) ((r * 4) + 0) ((T 0) (v * 7 + 0))) ((r * 4) + 1) ((((T 5) 10) * (if 0 ≤ (((T 3) (r * 4 + 0)) - ((T 0) (v * 7 + 0))) then (((T 3) (r * 4 + 0)) - ((T 0) (v * 7 + 0))) else 0 - (((T 3) (r * 4 + 0)) - ((T 0) (v * 7 + 0))))) + (nI (1)))) ((r * 4) + 2)) + (nI (1)))) ((r * 4) + 3) (((upd (upd (upd (T 3) ((r * 4) + 0) ((T 0) (v * 7 + 0))) ((r * 4) + 1) ((((T 5) 10) * (if 0 ≤ (((T 3) (r * 4 + 0)) - ((T 0) (v * 7 + 0))) then (((T 3) (r * 4 + 0)) - ((T 0) (v * 7 + 0))) else 0 - (((T 3) (r * 4 + 0)) - ((T 0) (v * 7 + 0))))) + (nI (1)))) ((r * 4) + 2) (((upd (upd (T 3) ((r * 4) + 0) ((T 0) (v * 7 + 0))) ((r * 4) + 1) ((((T 5) 10) * (if 0 ≤ (((T 3) (r * 4 + 0)) - ((T 0) (v * 7 + 0))) then (((T 3) (r * 4 + 0)) - ((T 0) (v * 7 + 0))) else 0 - (((T 3) (r * 4 + 0)) - ((T 0) (v * 7 + 0))))) + (nI (1)))) ((r * 4) + 2)) + (nI (1)))) ((r * 4) + 3)) + ((((T 5) 10) * (if 0 ≤ (((T 3) (r * 4 + 0)) - ((T 0) (v * 7 + 0))) then (((T 3) (r * 4 + 0)) - ((T 0) (v * 7 + 0))) else 0 - (((T 3) (r * 4 + 0)) - ((T 0) (v * 7 + 0))))) + (nI (1)))))) 4 (upd (upd (upd (T 4) ((ne * 5) + 0) ((T 5) 3)) ((ne * 5) + 1) (nI (r))) ((ne * 5) + 2) (nI (v)))) K os sc) t0 p0 m0 u0 l0)) rfl rfl rfl ?_
  refine AR.run g_X0_startWay_114_5 122 [some (.ref 4097), some (.int (nI (v))), some (.int (g)), some (.int (nI (r))), some (.int ((((T 5) 10) * (if 0 ≤ (((T 3) (r * 4 + 0)) - ((T 0) (v * 7 + 0))) then (((T 3) (r * 4 + 0)) - ((T 0) (v * 7 + 0))) else 0 - (((T 3) (r * 4 + 0)) - ((T 0) (v * 7 + 0))))) + (nI (1)))), some (.int (nI (ne)))] [.int (g), .int (nI (3)), .int (nI (ne)), .ref 4110] _ [] rfl trivial ?_
  refine AR.callV0 (4110) [.int (nI (ne)), .int (nI (3)), .int (g)] [] lk_0_42 dc_X0_startWay_122 rfl rfl (s_3putT4 _ ne 3 g (by omega) (by omega)) (by first | rfl | (simp only [nI_add, pk_mul]; first | done | rfl)) rfl ?_
  refine AR.cast (h1 := (hp o0 (ar (tu (tu (tu T 0 (upd (T 0) ((v * 7) + 6) ((((T 5) 10) * (if 0 ≤ (((T 3) (r * 4 + 0)) - ((T 0) (v * 7 + 0))) then (((T 3) (r * 4 + 0)) - ((T 0) (v * 7 + 0))) else 0 - (((T 3) (r * 4 + 0)) - ((T 0) (v * 7 + 0))))) + (nI (1))))) 3 (upd (upd (upd (upd (T 3) ((r * 4) + 0) ((T 0) (v * 7 + 0))) ((r * 4) + 1) ((((T 5) 10) * (if 0 ≤ (((T 3) (r * 4 + 0)) - ((T 0) (v * 7 + 0))) then (((T 3) (r * 4 + 0)) - ((T 0) (v * 7 + 0))) else 0 - (((T 3) (r * 4 + 0)) - ((T 0) (v * 7 + 0))))) + (nI (1)))) ((r * 4) + 2) (((upd (upd (T 3) ((r * 4) + 0) ((T 0) (v * 7 + 0))) ((r * 4) + 1) ((((T 5) 10) * (if 0 ≤ (((T 3) (r * 4 + 0)) - ((T 0) (v * 7 + 0))) then (((T 3) (r * 4 + 0)) - ((T 0) (v * 7 + 0))) else 0 - (((T 3) (r * 4 + 0)) - ((T 0) (v * 7 + 0))))) + (nI (1)))) ((r * 4) + 2)) + (nI (1)))) ((r * 4) + 3) (((upd (upd (upd (T 3) ((r * 4) + 0) ((T 0) (v * 7 + 0))) ((r * 4) + 1) ((((T 5) 10) * (if 0 ≤ (((T 3) (r * 4 + 0)) - ((T 0) (v * 7 + 0))) then (((T 3) (r * 4 + 0)) - ((T 0) (v * 7 + 0))) else 0 - (((T 3) (r * 4 + 0)) - ((T 0) (v * 7 + 0))))) + (nI (1)))) ((r * 4) + 2) (((upd (upd (T 3) ((r * 4) + 0) ((T 0) (v * 7 + 0))) ((r * 4) + 1) ((((T 5) 10) * (if 0 ≤ (((T 3) (r * 4 + 0)) - ((T 0) (v * 7 + 0))) then (((T 3) (r * 4 + 0)) - ((T 0) (v * 7 + 0))) else 0 - (((T 3) (r * 4 + 0)) - ((T 0) (v * 7 + 0))))) + (nI (1)))) ((r * 4) + 2)) + (nI (1)))) ((r * 4) + 3)) + ((((T 5) 10) * (if 0 ≤ (((T 3) (r * 4 + 0)) - ((T 0) (v * 7 + 0))) then (((T 3) (r * 4 + 0)) - ((T 0) (v * 7 + 0))) else 0 - (((T 3) (r * 4 + 0)) - ((T 0) (v * 7 + 0))))) + (nI (1)))))) 4 (upd (upd (upd (upd (T 4) ((ne * 5) + 0) ((T 5) 3)) ((ne * 5) + 1) (nI (r))) ((ne * 5) + 2) (nI (v))) ((ne * 5) + 3) g)) K os sc) t0 p0 m0 u0 l0)) rfl rfl rfl ?_
  refine AR.run g_X0_startWay_125_5 134 [some (.ref 4097), some (.int (nI (v))), some (.int (g)), some (.int (nI (r))), some (.int ((((T 5) 10) * (if 0 ≤ (((T 3) (r * 4 + 0)) - ((T 0) (v * 7 + 0))) then (((T 3) (r * 4 + 0)) - ((T 0) (v * 7 + 0))) else 0 - (((T 3) (r * 4 + 0)) - ((T 0) (v * 7 + 0))))) + (nI (1)))), some (.int (nI (ne)))] [.int ((((T 5) 10) * (if 0 ≤ (((T 3) (r * 4 + 0)) - ((T 0) (v * 7 + 0))) then (((T 3) (r * 4 + 0)) - ((T 0) (v * 7 + 0))) else 0 - (((T 3) (r * 4 + 0)) - ((T 0) (v * 7 + 0))))) + (nI (1))), .int (nI (4)), .int (nI (ne)), .ref 4110] _ [] rfl trivial ?_
  refine AR.callV0 (4110) [.int (nI (ne)), .int (nI (4)), .int ((((T 5) 10) * (if 0 ≤ (((T 3) (r * 4 + 0)) - ((T 0) (v * 7 + 0))) then (((T 3) (r * 4 + 0)) - ((T 0) (v * 7 + 0))) else 0 - (((T 3) (r * 4 + 0)) - ((T 0) (v * 7 + 0))))) + (nI (1)))] [] lk_0_42 dc_X0_startWay_134 rfl rfl (s_3putT4 _ ne 4 ((((T 5) 10) * (if 0 ≤ (((T 3) (r * 4 + 0)) - ((T 0) (v * 7 + 0))) then (((T 3) (r * 4 + 0)) - ((T 0) (v * 7 + 0))) else 0 - (((T 3) (r * 4 + 0)) - ((T 0) (v * 7 + 0))))) + (nI (1))) (by omega) (by omega)) (by first | rfl | (simp only [nI_add, pk_mul]; first | done | rfl)) rfl ?_
  refine AR.cast (h1 := (hp o0 (ar (tu (tu (tu T 0 (upd (T 0) ((v * 7) + 6) ((((T 5) 10) * (if 0 ≤ (((T 3) (r * 4 + 0)) - ((T 0) (v * 7 + 0))) then (((T 3) (r * 4 + 0)) - ((T 0) (v * 7 + 0))) else 0 - (((T 3) (r * 4 + 0)) - ((T 0) (v * 7 + 0))))) + (nI (1))))) 3 (upd (upd (upd (upd (T 3) ((r * 4) + 0) ((T 0) (v * 7 + 0))) ((r * 4) + 1) ((((T 5) 10) * (if 0 ≤ (((T 3) (r * 4 + 0)) - ((T 0) (v * 7 + 0))) then (((T 3) (r * 4 + 0)) - ((T 0) (v * 7 + 0))) else 0 - (((T 3) (r * 4 + 0)) - ((T 0) (v * 7 + 0))))) + (nI (1)))) ((r * 4) + 2) (((upd (upd (T 3) ((r * 4) + 0) ((T 0) (v * 7 + 0))) ((r * 4) + 1) ((((T 5) 10) * (if 0 ≤ (((T 3) (r * 4 + 0)) - ((T 0) (v * 7 + 0))) then (((T 3) (r * 4 + 0)) - ((T 0) (v * 7 + 0))) else 0 - (((T 3) (r * 4 + 0)) - ((T 0) (v * 7 + 0))))) + (nI (1)))) ((r * 4) + 2)) + (nI (1)))) ((r * 4) + 3) (((upd (upd (upd (T 3) ((r * 4) + 0) ((T 0) (v * 7 + 0))) ((r * 4) + 1) ((((T 5) 10) * (if 0 ≤ (((T 3) (r * 4 + 0)) - ((T 0) (v * 7 + 0))) then (((T 3) (r * 4 + 0)) - ((T 0) (v * 7 + 0))) else 0 - (((T 3) (r * 4 + 0)) - ((T 0) (v * 7 + 0))))) + (nI (1)))) ((r * 4) + 2) (((upd (upd (T 3) ((r * 4) + 0) ((T 0) (v * 7 + 0))) ((r * 4) + 1) ((((T 5) 10) * (if 0 ≤ (((T 3) (r * 4 + 0)) - ((T 0) (v * 7 + 0))) then (((T 3) (r * 4 + 0)) - ((T 0) (v * 7 + 0))) else 0 - (((T 3) (r * 4 + 0)) - ((T 0) (v * 7 + 0))))) + (nI (1)))) ((r * 4) + 2)) + (nI (1)))) ((r * 4) + 3)) + ((((T 5) 10) * (if 0 ≤ (((T 3) (r * 4 + 0)) - ((T 0) (v * 7 + 0))) then (((T 3) (r * 4 + 0)) - ((T 0) (v * 7 + 0))) else 0 - (((T 3) (r * 4 + 0)) - ((T 0) (v * 7 + 0))))) + (nI (1)))))) 4 (upd (upd (upd (upd (upd (T 4) ((ne * 5) + 0) ((T 5) 3)) ((ne * 5) + 1) (nI (r))) ((ne * 5) + 2) (nI (v))) ((ne * 5) + 3) g) ((ne * 5) + 4) ((((T 5) 10) * (if 0 ≤ (((T 3) (r * 4 + 0)) - ((T 0) (v * 7 + 0))) then (((T 3) (r * 4 + 0)) - ((T 0) (v * 7 + 0))) else 0 - (((T 3) (r * 4 + 0)) - ((T 0) (v * 7 + 0))))) + (nI (1))))) K os sc) t0 p0 m0 u0 l0)) rfl rfl rfl ?_
  refine AR.run g_X0_startWay_137_5 144 [some (.ref 4097), some (.int (nI (v))), some (.int (g)), some (.int (nI (r))), some (.int ((((T 5) 10) * (if 0 ≤ (((T 3) (r * 4 + 0)) - ((T 0) (v * 7 + 0))) then (((T 3) (r * 4 + 0)) - ((T 0) (v * 7 + 0))) else 0 - (((T 3) (r * 4 + 0)) - ((T 0) (v * 7 + 0))))) + (nI (1)))), some (.int (nI (ne)))] [.int (nI (1)), .int (nI (5)), .int (nI (0)), .ref 4113] _ [] rfl trivial ?_
  refine AR.callV0 (4113) [.int (nI (0)), .int (nI (5)), .int (nI (1))] [] lk_0_60 dc_X0_startWay_144 rfl rfl (s_3addT5 _ 5 (nI (1)) (by omega)) (by first | rfl | (simp only [nI_add, pk_mul]; first | done | rfl)) rfl ?_
  refine AR.cast (h1 := (hp o0 (ar (tu (tu (tu (tu T 0 (upd (T 0) ((v * 7) + 6) ((((T 5) 10) * (if 0 ≤ (((T 3) (r * 4 + 0)) - ((T 0) (v * 7 + 0))) then (((T 3) (r * 4 + 0)) - ((T 0) (v * 7 + 0))) else 0 - (((T 3) (r * 4 + 0)) - ((T 0) (v * 7 + 0))))) + (nI (1))))) 3 (upd (upd (upd (upd (T 3) ((r * 4) + 0) ((T 0) (v * 7 + 0))) ((r * 4) + 1) ((((T 5) 10) * (if 0 ≤ (((T 3) (r * 4 + 0)) - ((T 0) (v * 7 + 0))) then (((T 3) (r * 4 + 0)) - ((T 0) (v * 7 + 0))) else 0 - (((T 3) (r * 4 + 0)) - ((T 0) (v * 7 + 0))))) + (nI (1)))) ((r * 4) + 2) (((upd (upd (T 3) ((r * 4) + 0) ((T 0) (v * 7 + 0))) ((r * 4) + 1) ((((T 5) 10) * (if 0 ≤ (((T 3) (r * 4 + 0)) - ((T 0) (v * 7 + 0))) then (((T 3) (r * 4 + 0)) - ((T 0) (v * 7 + 0))) else 0 - (((T 3) (r * 4 + 0)) - ((T 0) (v * 7 + 0))))) + (nI (1)))) ((r * 4) + 2)) + (nI (1)))) ((r * 4) + 3) (((upd (upd (upd (T 3) ((r * 4) + 0) ((T 0) (v * 7 + 0))) ((r * 4) + 1) ((((T 5) 10) * (if 0 ≤ (((T 3) (r * 4 + 0)) - ((T 0) (v * 7 + 0))) then (((T 3) (r * 4 + 0)) - ((T 0) (v * 7 + 0))) else 0 - (((T 3) (r * 4 + 0)) - ((T 0) (v * 7 + 0))))) + (nI (1)))) ((r * 4) + 2) (((upd (upd (T 3) ((r * 4) + 0) ((T 0) (v * 7 + 0))) ((r * 4) + 1) ((((T 5) 10) * (if 0 ≤ (((T 3) (r * 4 + 0)) - ((T 0) (v * 7 + 0))) then (((T 3) (r * 4 + 0)) - ((T 0) (v * 7 + 0))) else 0 - (((T 3) (r * 4 + 0)) - ((T 0) (v * 7 + 0))))) + (nI (1)))) ((r * 4) + 2)) + (nI (1)))) ((r * 4) + 3)) + ((((T 5) 10) * (if 0 ≤ (((T 3) (r * 4 + 0)) - ((T 0) (v * 7 + 0))) then (((T 3) (r * 4 + 0)) - ((T 0) (v * 7 + 0))) else 0 - (((T 3) (r * 4 + 0)) - ((T 0) (v * 7 + 0))))) + (nI (1)))))) 4 (upd (upd (upd (upd (upd (T 4) ((ne * 5) + 0) ((T 5) 3)) ((ne * 5) + 1) (nI (r))) ((ne * 5) + 2) (nI (v))) ((ne * 5) + 3) g) ((ne * 5) + 4) ((((T 5) 10) * (if 0 ≤ (((T 3) (r * 4 + 0)) - ((T 0) (v * 7 + 0))) then (((T 3) (r * 4 + 0)) - ((T 0) (v * 7 + 0))) else 0 - (((T 3) (r * 4 + 0)) - ((T 0) (v * 7 + 0))))) + (nI (1))))) 5 (upd (T 5) 5 (((T 5) 5) + (nI (1))))) K os sc) t0 p0 m0 u0 l0)) rfl rfl rfl ?_
  refine AR.run g_X0_startWay_147_1 149 [some (.ref 4097), some (.int (nI (v))), some (.int (g)), some (.int (nI (r))), some (.int ((((T 5) 10) * (if 0 ≤ (((T 3) (r * 4 + 0)) - ((T 0) (v * 7 + 0))) then (((T 3) (r * 4 + 0)) - ((T 0) (v * 7 + 0))) else 0 - (((T 3) (r * 4 + 0)) - ((T 0) (v * 7 + 0))))) + (nI (1)))), some (.int (nI (ne)))] [.int ((((T 5) 10) * (if 0 ≤ (((T 3) (r * 4 + 0)) - ((T 0) (v * 7 + 0))) then (((T 3) (r * 4 + 0)) - ((T 0) (v * 7 + 0))) else 0 - (((T 3) (r * 4 + 0)) - ((T 0) (v * 7 + 0))))) + (nI (1)))] _ [] rfl trivial ?_
  have e1_0 : F_0startWay v r T = ((((T 5) 10) * (if 0 ≤ (((T 3) (r * 4 + 0)) - ((T 0) (v * 7 + 0))) then (((T 3) (r * 4 + 0)) - ((T 0) (v * 7 + 0))) else 0 - (((T 3) (r * 4 + 0)) - ((T 0) (v * 7 + 0))))) + (nI (1))) := by rw [F_0startWay]
  have e1_1 : F_0startWay_T v g r ne T = (tu (tu (tu (tu T 0 (upd (T 0) ((v * 7) + 6) ((((T 5) 10) * (if 0 ≤ (((T 3) (r * 4 + 0)) - ((T 0) (v * 7 + 0))) then (((T 3) (r * 4 + 0)) - ((T 0) (v * 7 + 0))) else 0 - (((T 3) (r * 4 + 0)) - ((T 0) (v * 7 + 0))))) + (nI (1))))) 3 (upd (upd (upd (upd (T 3) ((r * 4) + 0) ((T 0) (v * 7 + 0))) ((r * 4) + 1) ((((T 5) 10) * (if 0 ≤ (((T 3) (r * 4 + 0)) - ((T 0) (v * 7 + 0))) then (((T 3) (r * 4 + 0)) - ((T 0) (v * 7 + 0))) else 0 - (((T 3) (r * 4 + 0)) - ((T 0) (v * 7 + 0))))) + (nI (1)))) ((r * 4) + 2) (((upd (upd (T 3) ((r * 4) + 0) ((T 0) (v * 7 + 0))) ((r * 4) + 1) ((((T 5) 10) * (if 0 ≤ (((T 3) (r * 4 + 0)) - ((T 0) (v * 7 + 0))) then (((T 3) (r * 4 + 0)) - ((T 0) (v * 7 + 0))) else 0 - (((T 3) (r * 4 + 0)) - ((T 0) (v * 7 + 0))))) + (nI (1)))) ((r * 4) + 2)) + (nI (1)))) ((r * 4) + 3) (((upd (upd (upd (T 3) ((r * 4) + 0) ((T 0) (v * 7 + 0))) ((r * 4) + 1) ((((T 5) 10) * (if 0 ≤ (((T 3) (r * 4 + 0)) - ((T 0) (v * 7 + 0))) then (((T 3) (r * 4 + 0)) - ((T 0) (v * 7 + 0))) else 0 - (((T 3) (r * 4 + 0)) - ((T 0) (v * 7 + 0))))) + (nI (1)))) ((r * 4) + 2) (((upd (upd (T 3) ((r * 4) + 0) ((T 0) (v * 7 + 0))) ((r * 4) + 1) ((((T 5) 10) * (if 0 ≤ (((T 3) (r * 4 + 0)) - ((T 0) (v * 7 + 0))) then (((T 3) (r * 4 + 0)) - ((T 0) (v * 7 + 0))) else 0 - (((T 3) (r * 4 + 0)) - ((T 0) (v * 7 + 0))))) + (nI (1)))) ((r * 4) + 2)) + (nI (1)))) ((r * 4) + 3)) + ((((T 5) 10) * (if 0 ≤ (((T 3) (r * 4 + 0)) - ((T 0) (v * 7 + 0))) then (((T 3) (r * 4 + 0)) - ((T 0) (v * 7 + 0))) else 0 - (((T 3) (r * 4 + 0)) - ((T 0) (v * 7 + 0))))) + (nI (1)))))) 4 (upd (upd (upd (upd (upd (T 4) ((ne * 5) + 0) ((T 5) 3)) ((ne * 5) + 1) (nI (r))) ((ne * 5) + 2) (nI (v))) ((ne * 5) + 3) g) ((ne * 5) + 4) ((((T 5) 10) * (if 0 ≤ (((T 3) (r * 4 + 0)) - ((T 0) (v * 7 + 0))) then (((T 3) (r * 4 + 0)) - ((T 0) (v * 7 + 0))) else 0 - (((T 3) (r * 4 + 0)) - ((T 0) (v * 7 + 0))))) + (nI (1))))) 5 (upd (T 5) 5 (((T 5) 5) + (nI (1))))) := by rw [F_0startWay_T]
  exact AR.retI dc_X0_startWay_149 rfl e1_0.symm (by rw [e1_1])
