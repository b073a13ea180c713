/-- the number of leaves of a row -/
def lt (T : Nat → Nat → Int32) (v : Nat) : Nat := (T 0 (v * 7 + 2)).toNatClampNeg
def HLv (T : Nat → Nat → Int32) (v : Nat) : Prop := T 0 (v * 7 + 2) = nI (lt T v) ∧ lt T v ≤ 40
abbrev LT (T : Nat → Nat → Int32) : Prop := ∀ v, v < 12 → HLv T v
/-- what the walks of the class need of its tables -/
def TI (T : Nat → Nat → Int32) (nv nc nr ne : Nat) : Prop := (T 5 0 = nI nv ∧ nv ≤ 12) ∧ (T 5 1 = nI nc ∧ nc ≤ 4) ∧ (T 5 2 = nI nr ∧ nr ≤ 3) ∧ (T 5 5 = nI ne ∧ ne ≤ 60) ∧ LT T ∧ ∀ c, c < 4 → QI 12 (T 2 (c * 5 + 2))
theorem g_X0_number_0_4 : ab_oks M_X0_number [(0, .aload_n 0, 1, 0, 0, 0, .null), (1, .getfield 32, 3, 0, 5, 94, .null), (4, .iconst 0, 1, 0, 0, 0, .int (nI (0))), (5, .iload_n 1, 1, 1, 0, 0, .null)] = true := by decide +kernel
theorem lk_0_45 : ab_lkV "LeafCradles$Archive" 45 M_X3_at 2 [268, 269, 270, 31, 271] = true := by decide +kernel
theorem dc_X0_number_6 : decode (AM.bytes M_X0_number) 6 = .ok (.invokevirtual 45, 3) := by decide +kernel
theorem dc_X0_number_9 : decode (AM.bytes M_X0_number) 9 = .ok (.ireturn, 1) := by decide +kernel
set_option maxRecDepth 100000 in
set_option maxHeartbeats 4000000 in
theorem s_0number {E : AE} (d : Nat) (c : Nat)  {o0 t0 p0 m0 u0 l0 : List AC} {T K : Nat → Nat → Int32} {os sc : Int32} (hc : c < 11) : CT E M_X0_number (d + 1) [.ref 4097, .int (nI (c))] (hp o0 (ar T K os sc) t0 p0 m0 u0 l0) (.inl (some (.int ((T 5) c)))) (hp o0 (ar T K os sc) t0 p0 m0 u0 l0) 0 0 := by
  refine CT.of (L := [some (.ref 4097), some (.int (nI (c)))]) rfl rfl ?_
  refine AR.run g_X0_number_0_4 6 [some (.ref 4097), some (.int (nI (c)))] [.int (nI (c)), .int (nI (0)), .ref 4113] _ [] rfl trivial ?_
  refine AR.callV1 (4113) [.int (nI (0)), .int (nI (c))] [] lk_0_45 dc_X0_number_6 rfl rfl (s_3atT5 _ c (by omega)) (by first | rfl | (simp only [nI_add, pk_mul]; first | done | rfl)) rfl ?_
  exact AR.retI dc_X0_number_9 rfl rfl rfl
def F_0isFree (c : Nat) (T : Nat → Nat → Int32) : Int32 := if ((T 2) (c * 5 + 2)) = (-1) then (nI (1)) else (nI (0))
theorem F_0isFree_01 (c : Nat) (T : Nat → Nat → Int32) : F_0isFree c T = nI 0 ∨ F_0isFree c T = nI 1 := by
  unfold F_0isFree
  (repeat' split) <;> first | exact Or.inl rfl | exact Or.inr rfl | exact wi01 _ _ _
theorem g_X0_isFree_0_4 : ab_oks M_X0_isFree [(0, .aload_n 0, 1, 0, 0, 0, .null), (1, .getfield 23, 3, 0, 2, 91, .null), (4, .iload_n 1, 1, 1, 0, 0, .null), (5, .iconst 2, 1, 0, 0, 0, .int (nI (2)))] = true := by decide +kernel
theorem dc_X0_isFree_6 : decode (AM.bytes M_X0_isFree) 6 = .ok (.invokevirtual 45, 3) := by decide +kernel
theorem g_X0_isFree_9_1 : ab_oks M_X0_isFree [(9, .iconst (-1), 1, 0, 0, 0, .int (-1))] = true := by decide +kernel
theorem dc_X0_isFree_10 : decode (AM.bytes M_X0_isFree) 10 = .ok (.if_icmp .ne 7, 3) := by decide +kernel
theorem g_X0_isFree_17_1 : ab_oks M_X0_isFree [(17, .iconst 0, 1, 0, 0, 0, .int (nI (0)))] = true := by decide +kernel
theorem dc_X0_isFree_18 : decode (AM.bytes M_X0_isFree) 18 = .ok (.ireturn, 1) := by decide +kernel
theorem g_X0_isFree_13_2 : ab_oks M_X0_isFree [(13, .iconst 1, 1, 0, 0, 0, .int (nI (1))), (14, .goto 4, 3, 18, 0, 0, .null)] = true := by decide +kernel
set_option maxRecDepth 100000 in
set_option maxHeartbeats 4000000 in
theorem s_0isFree {E : AE} (d : Nat) (c : Nat)  {o0 t0 p0 m0 u0 l0 : List AC} {T K : Nat → Nat → Int32} {os sc : Int32} (hc : c < 5) : CT E M_X0_isFree (d + 1) [.ref 4097, .int (nI (c))] (hp o0 (ar T K os sc) t0 p0 m0 u0 l0) (.inl (some (.int (F_0isFree c T)))) (hp o0 (ar T K os sc) t0 p0 m0 u0 l0) 0 0 := by
  refine CT.of (L := [some (.ref 4097), some (.int (nI (c)))]) rfl rfl ?_
  refine AR.run g_X0_isFree_0_4 6 [some (.ref 4097), some (.int (nI (c)))] [.int (nI (2)), .int (nI (c)), .ref 4104] _ [] rfl trivial ?_
  refine AR.callV1 (4104) [.int (nI (c)), .int (nI (2))] [] lk_0_45 dc_X0_isFree_6 rfl rfl (s_3atT2 _ c 2 (by omega) (by omega)) (by first | rfl | (simp only [nI_add, pk_mul]; first | done | rfl)) rfl ?_
  refine AR.run g_X0_isFree_9_1 10 [some (.ref 4097), some (.int (nI (c)))] [.int (-1), .int ((T 2) (c * 5 + 2))] _ [] rfl trivial ?_
  refine AR.ne2 (tgt := 17) dc_X0_isFree_10 (by decide) (fun c10_1 => ?_) (fun c10_1 => ?_)
  · refine AR.run g_X0_isFree_17_1 18 [some (.ref 4097), some (.int (nI (c)))] [.int (nI (0))] _ [] rfl trivial ?_
    have e2_0 : F_0isFree c T = (nI (0)) := by rw [F_0isFree, if_neg c10_1]
    exact AR.retZ dc_X0_isFree_18 rfl (Or.inl rfl) e2_0.symm rfl
  · refine AR.run g_X0_isFree_13_2 18 [some (.ref 4097), some (.int (nI (c)))] [.int (nI (1))] _ [] rfl trivial ?_
    have e3_0 : F_0isFree c T = (nI (1)) := by rw [F_0isFree, if_pos c10_1]
    exact AR.retZ dc_X0_isFree_18 rfl (Or.inr rfl) e3_0.symm rfl
def F_0isInItsBox (v : Nat) (T : Nat → Nat → Int32) : Int32 := if ((T 0) (v * 7 + 5)) = (-1) then if ((T 0) (v * 7 + 6)) = 0 then (nI (1)) else (nI (0)) else (nI (0))
theorem F_0isInItsBox_01 (v : Nat) (T : Nat → Nat → Int32) : F_0isInItsBox v T = nI 0 ∨ F_0isInItsBox v T = nI 1 := by
  unfold F_0isInItsBox
  (repeat' split) <;> first | exact Or.inl rfl | exact Or.inr rfl | exact wi01 _ _ _
theorem g_X0_isInItsBox_0_4 : ab_oks M_X0_isInItsBox [(0, .aload_n 0, 1, 0, 0, 0, .null), (1, .getfield 14, 3, 0, 0, 89, .null), (4, .iload_n 1, 1, 1, 0, 0, .null), (5, .iconst 5, 1, 0, 0, 0, .int (nI (5)))] = true := by decide +kernel
theorem dc_X0_isInItsBox_6 : decode (AM.bytes M_X0_isInItsBox) 6 = .ok (.invokevirtual 45, 3) := by decide +kernel
theorem g_X0_isInItsBox_9_1 : ab_oks M_X0_isInItsBox [(9, .iconst (-1), 1, 0, 0, 0, .int (-1))] = true := by decide +kernel
theorem dc_X0_isInItsBox_10 : decode (AM.bytes M_X0_isInItsBox) 10 = .ok (.if_icmp .ne 20, 3) := by decide +kernel
theorem g_X0_isInItsBox_30_1 : ab_oks M_X0_isInItsBox [(30, .iconst 0, 1, 0, 0, 0, .int (nI (0)))] = true := by decide +kernel
theorem dc_X0_isInItsBox_31 : decode (AM.bytes M_X0_isInItsBox) 31 = .ok (.ireturn, 1) := by decide +kernel
theorem g_X0_isInItsBox_13_4 : ab_oks M_X0_isInItsBox [(13, .aload_n 0, 1, 0, 0, 0, .null), (14, .getfield 14, 3, 0, 0, 89, .null), (17, .iload_n 1, 1, 1, 0, 0, .null), (18, .bipush 6, 2, 0, 0, 0, .int (nI (6)))] = true := by decide +kernel
theorem dc_X0_isInItsBox_20 : decode (AM.bytes M_X0_isInItsBox) 20 = .ok (.invokevirtual 45, 3) := by decide +kernel
theorem dc_X0_isInItsBox_23 : decode (AM.bytes M_X0_isInItsBox) 23 = .ok (.ifCond .ne 7, 3) := by decide +kernel
theorem g_X0_isInItsBox_26_2 : ab_oks M_X0_isInItsBox [(26, .iconst 1, 1, 0, 0, 0, .int (nI (1))), (27, .goto 4, 3, 31, 0, 0, .null)] = true := by decide +kernel
set_option maxRecDepth 100000 in
set_option maxHeartbeats 4000000 in
theorem s_0isInItsBox {E : AE} (d : Nat) (v : Nat)  {o0 t0 p0 m0 u0 l0 : List AC} {T K : Nat → Nat → Int32} {os sc : Int32} (hv : v < 13) : CT E M_X0_isInItsBox (d + 1) [.ref 4097, .int (nI (v))] (hp o0 (ar T K os sc) t0 p0 m0 u0 l0) (.inl (some (.int (F_0isInItsBox v T)))) (hp o0 (ar T K os sc) t0 p0 m0 u0 l0) 0 0 := by
  refine CT.of (L := [some (.ref 4097), some (.int (nI (v)))]) rfl rfl ?_
  refine AR.run g_X0_isInItsBox_0_4 6 [some (.ref 4097), some (.int (nI (v)))] [.int (nI (5)), .int (nI (v)), .ref 4098] _ [] rfl trivial ?_
  refine AR.callV1 (4098) [.int (nI (v)), .int (nI (5))] [] lk_0_45 dc_X0_isInItsBox_6 rfl rfl (s_3atT0 _ v 5 (by omega) (by omega)) (by first | rfl | (simp only [nI_add, pk_mul]; first | done | rfl)) rfl ?_
  refine AR.run g_X0_isInItsBox_9_1 10 [some (.ref 4097), some (.int (nI (v)))] [.int (-1), .int ((T 0) (v * 7 + 5))] _ [] rfl trivial ?_
  refine AR.ne2 (tgt := 30) dc_X0_isInItsBox_10 (by decide) (fun c10_1 => ?_) (fun c10_1 => ?_)
  · refine AR.run g_X0_isInItsBox_30_1 31 [some (.ref 4097), some (.int (nI (v)))] [.int (nI (0))] _ [] rfl trivial ?_
    have e2_0 : F_0isInItsBox v T = (nI (0)) := by rw [F_0isInItsBox, if_neg c10_1]
    exact AR.retZ dc_X0_isInItsBox_31 rfl (Or.inl rfl) e2_0.symm rfl
  · refine AR.run g_X0_isInItsBox_13_4 20 [some (.ref 4097), some (.int (nI (v)))] [.int (nI (6)), .int (nI (v)), .ref 4098] _ [] rfl trivial ?_
    refine AR.callV1 (4098) [.int (nI (v)), .int (nI (6))] [] lk_0_45 dc_X0_isInItsBox_20 rfl rfl (s_3atT0 _ v 6 (by omega) (by omega)) (by first | rfl | (simp only [nI_add, pk_mul]; first | done | rfl)) rfl ?_
    refine AR.ne (tgt := 30) dc_X0_isInItsBox_23 (by decide) (fun c23_3 => ?_) (fun c23_3 => ?_)
    · refine AR.run g_X0_isInItsBox_30_1 31 [some (.ref 4097), some (.int (nI (v)))] [.int (nI (0))] _ [] rfl trivial ?_
      have e4_0 : F_0isInItsBox v T = (nI (0)) := by rw [F_0isInItsBox, if_pos c10_1, if_neg c23_3]
      exact AR.retZ dc_X0_isInItsBox_31 rfl (Or.inl rfl) e4_0.symm rfl
    · refine AR.run g_X0_isInItsBox_26_2 31 [some (.ref 4097), some (.int (nI (v)))] [.int (nI (1))] _ [] rfl trivial ?_
      have e5_0 : F_0isInItsBox v T = (nI (1)) := by rw [F_0isInItsBox, if_pos c10_1, if_pos c23_3]
      exact AR.retZ dc_X0_isInItsBox_31 rfl (Or.inr rfl) e5_0.symm rfl
def F_0isLargeEnough (c : Nat) (v : Nat) (T : Nat → Nat → Int32) : Int32 := if ((T 2) (c * 5 + 0)) < ((T 0) (v * 7 + 1)) then (nI (0)) else (nI (1))
theorem F_0isLargeEnough_01 (c : Nat) (v : Nat) (T : Nat → Nat → Int32) : F_0isLargeEnough c v T = nI 0 ∨ F_0isLargeEnough c v T = nI 1 := by
  unfold F_0isLargeEnough
  (repeat' split) <;> first | exact Or.inl rfl | exact Or.inr rfl | exact wi01 _ _ _
theorem g_X0_isLargeEnough_0_4 : ab_oks M_X0_isLargeEnough [(0, .aload_n 0, 1, 0, 0, 0, .null), (1, .getfield 14, 3, 0, 0, 89, .null), (4, .iload_n 2, 1, 2, 0, 0, .null), (5, .iconst 1, 1, 0, 0, 0, .int (nI (1)))] = true := by decide +kernel
theorem dc_X0_isLargeEnough_6 : decode (AM.bytes M_X0_isLargeEnough) 6 = .ok (.invokevirtual 45, 3) := by decide +kernel
theorem g_X0_isLargeEnough_9_4 : ab_oks M_X0_isLargeEnough [(9, .aload_n 0, 1, 0, 0, 0, .null), (10, .getfield 23, 3, 0, 2, 91, .null), (13, .iload_n 1, 1, 1, 0, 0, .null), (14, .iconst 0, 1, 0, 0, 0, .int (nI (0)))] = true := by decide +kernel
theorem dc_X0_isLargeEnough_15 : decode (AM.bytes M_X0_isLargeEnough) 15 = .ok (.invokevirtual 45, 3) := by decide +kernel
theorem dc_X0_isLargeEnough_18 : decode (AM.bytes M_X0_isLargeEnough) 18 = .ok (.if_icmp .gt 7, 3) := by decide +kernel
theorem g_X0_isLargeEnough_25_1 : ab_oks M_X0_isLargeEnough [(25, .iconst 0, 1, 0, 0, 0, .int (nI (0)))] = true := by decide +kernel
theorem dc_X0_isLargeEnough_26 : decode (AM.bytes M_X0_isLargeEnough) 26 = .ok (.ireturn, 1) := by decide +kernel
theorem g_X0_isLargeEnough_21_2 : ab_oks M_X0_isLargeEnough [(21, .iconst 1, 1, 0, 0, 0, .int (nI (1))), (22, .goto 4, 3, 26, 0, 0, .null)] = true := by decide +kernel
set_option maxRecDepth 100000 in
set_option maxHeartbeats 4000000 in
theorem s_0isLargeEnough {E : AE} (d : Nat) (c : Nat) (v : Nat)  {o0 t0 p0 m0 u0 l0 : List AC} {T K : Nat → Nat → Int32} {os sc : Int32} (hc : c < 5) (hv : v < 13) : CT E M_X0_isLargeEnough (d + 1) [.ref 4097, .int (nI (c)), .int (nI (v))] (hp o0 (ar T K os sc) t0 p0 m0 u0 l0) (.inl (some (.int (F_0isLargeEnough c v T)))) (hp o0 (ar T K os sc) t0 p0 m0 u0 l0) 0 0 := by
  refine CT.of (L := [some (.ref 4097), some (.int (nI (c))), some (.int (nI (v)))]) rfl rfl ?_
  refine AR.run g_X0_isLargeEnough_0_4 6 [some (.ref 4097), some (.int (nI (c))), some (.int (nI (v)))] [.int (nI (1)), .int (nI (v)), .ref 4098] _ [] rfl trivial ?_
  refine AR.callV1 (4098) [.int (nI (v)), .int (nI (1))] [] lk_0_45 dc_X0_isLargeEnough_6 rfl rfl (s_3atT0 _ v 1 (by omega) (by omega)) (by first | rfl | (simp only [nI_add, pk_mul]; first | done | rfl)) rfl ?_
  refine AR.run g_X0_isLargeEnough_9_4 15 [some (.ref 4097), some (.int (nI (c))), some (.int (nI (v)))] [.int (nI (0)), .int (nI (c)), .ref 4104, .int ((T 0) (v * 7 + 1))] _ [] rfl trivial ?_
  refine AR.callV1 (4104) [.int (nI (c)), .int (nI (0))] [.int ((T 0) (v * 7 + 1))] lk_0_45 dc_X0_isLargeEnough_15 rfl rfl (s_3atT2 _ c 0 (by omega) (by omega)) (by first | rfl | (simp only [nI_add, pk_mul]; first | done | rfl)) rfl ?_
  refine AR.gt2 (tgt := 25) dc_X0_isLargeEnough_18 (by decide) (fun c18_1 => ?_) (fun c18_1 => ?_)
  · refine AR.run g_X0_isLargeEnough_25_1 26 [some (.ref 4097), some (.int (nI (c))), some (.int (nI (v)))] [.int (nI (0))] _ [] rfl trivial ?_
    have e2_0 : F_0isLargeEnough c v T = (nI (0)) := by rw [F_0isLargeEnough, if_pos c18_1]
    exact AR.retZ dc_X0_isLargeEnough_26 rfl (Or.inl rfl) e2_0.symm rfl
  · refine AR.run g_X0_isLargeEnough_21_2 26 [some (.ref 4097), some (.int (nI (c))), some (.int (nI (v)))] [.int (nI (1))] _ [] rfl trivial ?_
    have e3_0 : F_0isLargeEnough c v T = (nI (1)) := by rw [F_0isLargeEnough, if_neg c18_1]
    exact AR.retZ dc_X0_isLargeEnough_26 rfl (Or.inr rfl) e3_0.symm rfl
def F_0isGentleEnough (c : Nat) (v : Nat) (T : Nat → Nat → Int32) : Int32 := if ((T 2) (c * 5 + 1)) < ((T 0) (v * 7 + 3)) then (nI (0)) else (nI (1))
theorem F_0isGentleEnough_01 (c : Nat) (v : Nat) (T : Nat → Nat → Int32) : F_0isGentleEnough c v T = nI 0 ∨ F_0isGentleEnough c v T = nI 1 := by
  unfold F_0isGentleEnough
  (repeat' split) <;> first | exact Or.inl rfl | exact Or.inr rfl | exact wi01 _ _ _
theorem g_X0_isGentleEnough_0_4 : ab_oks M_X0_isGentleEnough [(0, .aload_n 0, 1, 0, 0, 0, .null), (1, .getfield 14, 3, 0, 0, 89, .null), (4, .iload_n 2, 1, 2, 0, 0, .null), (5, .iconst 3, 1, 0, 0, 0, .int (nI (3)))] = true := by decide +kernel
theorem dc_X0_isGentleEnough_6 : decode (AM.bytes M_X0_isGentleEnough) 6 = .ok (.invokevirtual 45, 3) := by decide +kernel
theorem g_X0_isGentleEnough_9_4 : ab_oks M_X0_isGentleEnough [(9, .aload_n 0, 1, 0, 0, 0, .null), (10, .getfield 23, 3, 0, 2, 91, .null), (13, .iload_n 1, 1, 1, 0, 0, .null), (14, .iconst 1, 1, 0, 0, 0, .int (nI (1)))] = true := by decide +kernel
theorem dc_X0_isGentleEnough_15 : decode (AM.bytes M_X0_isGentleEnough) 15 = .ok (.invokevirtual 45, 3) := by decide +kernel
theorem dc_X0_isGentleEnough_18 : decode (AM.bytes M_X0_isGentleEnough) 18 = .ok (.if_icmp .gt 7, 3) := by decide +kernel
theorem g_X0_isGentleEnough_25_1 : ab_oks M_X0_isGentleEnough [(25, .iconst 0, 1, 0, 0, 0, .int (nI (0)))] = true := by decide +kernel
theorem dc_X0_isGentleEnough_26 : decode (AM.bytes M_X0_isGentleEnough) 26 = .ok (.ireturn, 1) := by decide +kernel
theorem g_X0_isGentleEnough_21_2 : ab_oks M_X0_isGentleEnough [(21, .iconst 1, 1, 0, 0, 0, .int (nI (1))), (22, .goto 4, 3, 26, 0, 0, .null)] = true := by decide +kernel
set_option maxRecDepth 100000 in
set_option maxHeartbeats 4000000 in
theorem s_0isGentleEnough {E : AE} (d : Nat) (c : Nat) (v : Nat)  {o0 t0 p0 m0 u0 l0 : List AC} {T K : Nat → Nat → Int32} {os sc : Int32} (hc : c < 5) (hv : v < 13) : CT E M_X0_isGentleEnough (d + 1) [.ref 4097, .int (nI (c)), .int (nI (v))] (hp o0 (ar T K os sc) t0 p0 m0 u0 l0) (.inl (some (.int (F_0isGentleEnough c v T)))) (hp o0 (ar T K os sc) t0 p0 m0 u0 l0) 0 0 := by
  refine CT.of (L := [some (.ref 4097), some (.int (nI (c))), some (.int (nI (v)))]) rfl rfl ?_
  refine AR.run g_X0_isGentleEnough_0_4 6 [some (.ref 4097), some (.int (nI (c))), some (.int (nI (v)))] [.int (nI (3)), .int (nI (v)), .ref 4098] _ [] rfl trivial ?_
  refine AR.callV1 (4098) [.int (nI (v)), .int (nI (3))] [] lk_0_45 dc_X0_isGentleEnough_6 rfl rfl (s_3atT0 _ v 3 (by omega) (by omega)) (by first | rfl | (simp only [nI_add, pk_mul]; first | done | rfl)) rfl ?_
  refine AR.run g_X0_isGentleEnough_9_4 15 [some (.ref 4097), some (.int (nI (c))), some (.int (nI (v)))] [.int (nI (1)), .int (nI (c)), .ref 4104, .int ((T 0) (v * 7 + 3))] _ [] rfl trivial ?_
  refine AR.callV1 (4104) [.int (nI (c)), .int (nI (1))] [.int ((T 0) (v * 7 + 3))] lk_0_45 dc_X0_isGentleEnough_15 rfl rfl (s_3atT2 _ c 1 (by omega) (by omega)) (by first | rfl | (simp only [nI_add, pk_mul]; first | done | rfl)) rfl ?_
  refine AR.gt2 (tgt := 25) dc_X0_isGentleEnough_18 (by decide) (fun c18_1 => ?_) (fun c18_1 => ?_)
  · refine AR.run g_X0_isGentleEnough_25_1 26 [some (.ref 4097), some (.int (nI (c))), some (.int (nI (v)))] [.int (nI (0))] _ [] rfl trivial ?_
    have e2_0 : F_0isGentleEnough c v T = (nI (0)) := by rw [F_0isGentleEnough, if_pos c18_1]
    exact AR.retZ dc_X0_isGentleEnough_26 rfl (Or.inl rfl) e2_0.symm rfl
  · refine AR.run g_X0_isGentleEnough_21_2 26 [some (.ref 4097), some (.int (nI (c))), some (.int (nI (v)))] [.int (nI (1))] _ [] rfl trivial ?_
    have e3_0 : F_0isGentleEnough c v T = (nI (1)) := by rw [F_0isGentleEnough, if_neg c18_1]
    exact AR.retZ dc_X0_isGentleEnough_26 rfl (Or.inr rfl) e3_0.symm rfl
def F_0isOpen (v : Nat) (k : Nat) (T : Nat → Nat → Int32) : Int32 := if ((T 1) (v * 120 + ((k * 3) + 0))) = (nI (1)) then if ((T 5) 4) < ((T 1) (v * 120 + ((k * 3) + 2))) then (nI (0)) else (nI (1)) else (nI (0))
theorem F_0isOpen_01 (v : Nat) (k : Nat) (T : Nat → Nat → Int32) : F_0isOpen v k T = nI 0 ∨ F_0isOpen v k T = nI 1 := by
  unfold F_0isOpen
  (repeat' split) <;> first | exact Or.inl rfl | exact Or.inr rfl | exact wi01 _ _ _
theorem g_X0_isOpen_0_10 : ab_oks M_X0_isOpen [(0, .iload_n 2, 1, 2, 0, 0, .null), (1, .iconst 3, 1, 0, 0, 0, .int (nI (3))), (2, .imul, 1, 0, 0, 0, .null), (3, .istore_n 3, 1, 3, 0, 0, .null), (4, .aload_n 0, 1, 0, 0, 0, .null), (5, .getfield 20, 3, 0, 1, 90, .null), (8, .iload_n 1, 1, 1, 0, 0, .null), (9, .iload_n 3, 1, 3, 0, 0, .null), (10, .iconst 0, 1, 0, 0, 0, .int (nI (0))), (11, .iadd, 1, 0, 0, 0, .null)] = true := by decide +kernel
theorem dc_X0_isOpen_12 : decode (AM.bytes M_X0_isOpen) 12 = .ok (.invokevirtual 45, 3) := by decide +kernel
theorem g_X0_isOpen_15_1 : ab_oks M_X0_isOpen [(15, .iconst 1, 1, 0, 0, 0, .int (nI (1)))] = true := by decide +kernel
theorem dc_X0_isOpen_16 : decode (AM.bytes M_X0_isOpen) 16 = .ok (.if_icmp .ne 30, 3) := by decide +kernel
theorem g_X0_isOpen_46_1 : ab_oks M_X0_isOpen [(46, .iconst 0, 1, 0, 0, 0, .int (nI (0)))] = true := by decide +kernel
theorem dc_X0_isOpen_47 : decode (AM.bytes M_X0_isOpen) 47 = .ok (.ireturn, 1) := by decide +kernel
theorem g_X0_isOpen_19_6 : ab_oks M_X0_isOpen [(19, .aload_n 0, 1, 0, 0, 0, .null), (20, .getfield 20, 3, 0, 1, 90, .null), (23, .iload_n 1, 1, 1, 0, 0, .null), (24, .iload_n 3, 1, 3, 0, 0, .null), (25, .iconst 2, 1, 0, 0, 0, .int (nI (2))), (26, .iadd, 1, 0, 0, 0, .null)] = true := by decide +kernel
theorem dc_X0_isOpen_27 : decode (AM.bytes M_X0_isOpen) 27 = .ok (.invokevirtual 45, 3) := by decide +kernel
theorem g_X0_isOpen_30_4 : ab_oks M_X0_isOpen [(30, .aload_n 0, 1, 0, 0, 0, .null), (31, .getfield 32, 3, 0, 5, 94, .null), (34, .iconst 0, 1, 0, 0, 0, .int (nI (0))), (35, .iconst 4, 1, 0, 0, 0, .int (nI (4)))] = true := by decide +kernel
theorem dc_X0_isOpen_36 : decode (AM.bytes M_X0_isOpen) 36 = .ok (.invokevirtual 45, 3) := by decide +kernel
theorem dc_X0_isOpen_39 : decode (AM.bytes M_X0_isOpen) 39 = .ok (.if_icmp .gt 7, 3) := by decide +kernel
theorem g_X0_isOpen_42_2 : ab_oks M_X0_isOpen [(42, .iconst 1, 1, 0, 0, 0, .int (nI (1))), (43, .goto 4, 3, 47, 0, 0, .null)] = true := by decide +kernel
set_option maxRecDepth 100000 in
set_option maxHeartbeats 4000000 in
theorem s_0isOpen {E : AE} (d : Nat) (v : Nat) (k : Nat)  {o0 t0 p0 m0 u0 l0 : List AC} {T K : Nat → Nat → Int32} {os sc : Int32} (hv : v < 13) (hk : k < 40) : CT E M_X0_isOpen (d + 1) [.ref 4097, .int (nI (v)), .int (nI (k))] (hp o0 (ar T K os sc) t0 p0 m0 u0 l0) (.inl (some (.int (F_0isOpen v k T)))) (hp o0 (ar T K os sc) t0 p0 m0 u0 l0) 0 0 := by
  refine CT.of (L := [some (.ref 4097), some (.int (nI (v))), some (.int (nI (k))), none]) rfl rfl ?_
  refine AR.run g_X0_isOpen_0_10 12 [some (.ref 4097), some (.int (nI (v))), some (.int (nI (k))), some (.int ((nI (k)) * (nI (3))))] [.int (((nI (k)) * (nI (3))) + (nI (0))), .int (nI (v)), .ref 4101] _ [] rfl trivial ?_
  refine AR.callV1 (4101) [.int (nI (v)), .int (nI (((k * 3) + 0)))] [] lk_0_45 dc_X0_isOpen_12 rfl rfl (s_3atT1 _ v ((k * 3) + 0) (by omega) (by omega)) (by first | rfl | (simp only [nI_add, pk_mul]; first | done | rfl)) rfl ?_
  refine AR.run g_X0_isOpen_15_1 16 [some (.ref 4097), some (.int (nI (v))), some (.int (nI (k))), some (.int ((nI (k)) * (nI (3))))] [.int (nI (1)), .int ((T 1) (v * 120 + ((k * 3) + 0)))] _ [] rfl trivial ?_
  refine AR.ne2 (tgt := 46) dc_X0_isOpen_16 (by decide) (fun c16_1 => ?_) (fun c16_1 => ?_)
  · refine AR.run g_X0_isOpen_46_1 47 [some (.ref 4097), some (.int (nI (v))), some (.int (nI (k))), some (.int ((nI (k)) * (nI (3))))] [.int (nI (0))] _ [] rfl trivial ?_
    have e2_0 : F_0isOpen v k T = (nI (0)) := by rw [F_0isOpen, if_neg c16_1]
    exact AR.retZ dc_X0_isOpen_47 rfl (Or.inl rfl) e2_0.symm rfl
  · refine AR.run g_X0_isOpen_19_6 27 [some (.ref 4097), some (.int (nI (v))), some (.int (nI (k))), some (.int ((nI (k)) * (nI (3))))] [.int (((nI (k)) * (nI (3))) + (nI (2))), .int (nI (v)), .ref 4101] _ [] rfl trivial ?_
    refine AR.callV1 (4101) [.int (nI (v)), .int (nI (((k * 3) + 2)))] [] lk_0_45 dc_X0_isOpen_27 rfl rfl (s_3atT1 _ v ((k * 3) + 2) (by omega) (by omega)) (by first | rfl | (simp only [nI_add, pk_mul]; first | done | rfl)) rfl ?_
    refine AR.run g_X0_isOpen_30_4 36 [some (.ref 4097), some (.int (nI (v))), some (.int (nI (k))), some (.int ((nI (k)) * (nI (3))))] [.int (nI (4)), .int (nI (0)), .ref 4113, .int ((T 1) (v * 120 + ((k * 3) + 2)))] _ [] rfl trivial ?_
    refine AR.callV1 (4113) [.int (nI (0)), .int (nI (4))] [.int ((T 1) (v * 120 + ((k * 3) + 2)))] lk_0_45 dc_X0_isOpen_36 rfl rfl (s_3atT5 _ 4 (by omega)) (by first | rfl | (simp only [nI_add, pk_mul]; first | done | rfl)) rfl ?_
    refine AR.gt2 (tgt := 46) dc_X0_isOpen_39 (by decide) (fun c39_3 => ?_) (fun c39_3 => ?_)
    · refine AR.run g_X0_isOpen_46_1 47 [some (.ref 4097), some (.int (nI (v))), some (.int (nI (k))), some (.int ((nI (k)) * (nI (3))))] [.int (nI (0))] _ [] rfl trivial ?_
      have e4_0 : F_0isOpen v k T = (nI (0)) := by rw [F_0isOpen, if_pos c16_1, if_pos c39_3]
      exact AR.retZ dc_X0_isOpen_47 rfl (Or.inl rfl) e4_0.symm rfl
    · refine AR.run g_X0_isOpen_42_2 47 [some (.ref 4097), some (.int (nI (v))), some (.int (nI (k))), some (.int ((nI (k)) * (nI (3))))] [.int (nI (1))] _ [] rfl trivial ?_
      have e5_0 : F_0isOpen v k T = (nI (1)) := by rw [F_0isOpen, if_pos c16_1, if_neg c39_3]
      exact AR.retZ dc_X0_isOpen_47 rfl (Or.inr rfl) e5_0.symm rfl
def B_0openLeaves_4 (v : Nat) (T : Nat → Nat → Int32) (j4 : Nat) (x4_2 : Int32) : (Int32) := if (F_0isOpen v j4 T) = 0 then x4_2 else (x4_2 + (nI (1)))
def L_0openLeaves_4 (v : Nat) (T : Nat → Nat → Int32) : Nat → (Int32)
  | 0 => nI (0)
  | j + 1 => B_0openLeaves_4 v T j (L_0openLeaves_4 v T  j)
theorem g_X0_openLeaves_0_4 : ab_oks M_X0_openLeaves [(0, .iconst 0, 1, 0, 0, 0, .int (nI (0))), (1, .istore_n 2, 1, 2, 0, 0, .null), (2, .iconst 0, 1, 0, 0, 0, .int (nI (0))), (3, .istore_n 3, 1, 3, 0, 0, .null)] = true := by decide +kernel
theorem g_X0_openLeaves_4_5 : ab_oks M_X0_openLeaves [(4, .iload_n 3, 1, 3, 0, 0, .null), (5, .aload_n 0, 1, 0, 0, 0, .null), (6, .getfield 14, 3, 0, 0, 89, .null), (9, .iload_n 1, 1, 1, 0, 0, .null), (10, .iconst 2, 1, 0, 0, 0, .int (nI (2)))] = true := by decide +kernel
theorem dc_X0_openLeaves_11 : decode (AM.bytes M_X0_openLeaves) 11 = .ok (.invokevirtual 45, 3) := by decide +kernel
theorem dc_X0_openLeaves_14 : decode (AM.bytes M_X0_openLeaves) 14 = .ok (.if_icmp .ge 21, 3) := by decide +kernel
theorem g_X0_openLeaves_17_3 : ab_oks M_X0_openLeaves [(17, .aload_n 0, 1, 0, 0, 0, .null), (18, .iload_n 1, 1, 1, 0, 0, .null), (19, .iload_n 3, 1, 3, 0, 0, .null)] = true := by decide +kernel
theorem lk_0_75 : ab_lkV "LeafCradles$Archive" 75 M_X0_isOpen 2 [284, 286, 4, 30, 287] = true := by decide +kernel
theorem dc_X0_openLeaves_20 : decode (AM.bytes M_X0_openLeaves) 20 = .ok (.invokevirtual 75, 3) := by decide +kernel
theorem dc_X0_openLeaves_23 : decode (AM.bytes M_X0_openLeaves) 23 = .ok (.ifCond .eq 6, 3) := by decide +kernel
theorem g_X0_openLeaves_29_2 : ab_oks M_X0_openLeaves [(29, .iinc 3 1, 3, 3, 0, 0, .int (nI (1))), (32, .goto (-28), 3, 4, 0, 0, .null)] = true := by decide +kernel
theorem g_X0_openLeaves_26_3 : ab_oks M_X0_openLeaves [(26, .iinc 2 1, 3, 2, 0, 0, .int (nI (1))), (29, .iinc 3 1, 3, 3, 0, 0, .int (nI (1))), (32, .goto (-28), 3, 4, 0, 0, .null)] = true := by decide +kernel
theorem g_X0_openLeaves_35_1 : ab_oks M_X0_openLeaves [(35, .iload_n 2, 1, 2, 0, 0, .null)] = true := by decide +kernel
theorem dc_X0_openLeaves_36 : decode (AM.bytes M_X0_openLeaves) 36 = .ok (.ireturn, 1) := by decide +kernel
set_option maxRecDepth 100000 in
set_option maxHeartbeats 4000000 in
theorem s_0openLeaves {E : AE} (d : Nat) (v : Nat)  {o0 t0 p0 m0 u0 l0 : List AC} {T K : Nat → Nat → Int32} {os sc : Int32} (hv : v < 13) (htl : T 0 (v * 7 + 2) = nI (lt T v)) (ht40 : lt T v ≤ 40) : CT E M_X0_openLeaves (d + 2) [.ref 4097, .int (nI (v))] (hp o0 (ar T K os sc) t0 p0 m0 u0 l0) (.inl (some (.int (L_0openLeaves_4 v T (lt T v))))) (hp o0 (ar T K os sc) t0 p0 m0 u0 l0) 0 0 := by
  refine CT.of (L := [some (.ref 4097), some (.int (nI (v))), none, none]) rfl rfl ?_
  refine AR.run g_X0_openLeaves_0_4 4 [some (.ref 4097), some (.int (nI (v))), some (.int (nI (0))), some (.int (nI (0)))] [] _ [] rfl trivial ?_
  refine AR.cast (L' := [some (.ref 4097), some (.int (nI (v))), some (.int (L_0openLeaves_4 v T 0)), some (.int (nI (0)))]) (by first | rfl | (rw [L_0openLeaves_4])) rfl rfl (AR.loopN (lt T v) (fun j4 => [some (.ref 4097), some (.int (nI (v))), some (.int (L_0openLeaves_4 v T j4)), some (.int (nI (j4)))]) (fun j4 => (hp o0 (ar T K os sc) t0 p0 m0 u0 l0)) (fun j4 => True) (fun j4 hj4 hI4 ih4 => ?_) (fun hI4 => ?_) 0 (by omega) (by first | trivial | omega))
  · refine AR.run g_X0_openLeaves_4_5 11 [some (.ref 4097), some (.int (nI (v))), some (.int (L_0openLeaves_4 v T j4)), some (.int (nI (j4)))] [.int (nI (2)), .int (nI (v)), .ref 4098, .int (nI (j4))] _ [] rfl trivial ?_
    refine AR.callV1 (4098) [.int (nI (v)), .int (nI (2))] [.int (nI (j4))] lk_0_45 dc_X0_openLeaves_11 rfl rfl (s_3atT0 _ v 2 (by omega) (by omega)) (by first | rfl | (simp only [nI_add, pk_mul]; first | done | rfl)) rfl ?_
    refine AR.top htl ?_
    refine AR.ge2N (tgt := 35) (a := j4) (b := (lt T v)) dc_X0_openLeaves_14 (by decide) (by first | rfl | (simp only [nI_add, pk_mul]; first | done | rfl)) (by first | rfl | (simp only [nI_add, pk_mul]; first | done | rfl)) (by omega) (by omega) (fun c14_1 => absurd c14_1 (by omega)) (fun c14_1 => ?_)
    refine AR.run g_X0_openLeaves_17_3 20 [some (.ref 4097), some (.int (nI (v))), some (.int (L_0openLeaves_4 v T j4)), some (.int (nI (j4)))] [.int (nI (j4)), .int (nI (v)), .ref 4097] _ [] rfl trivial ?_
    refine AR.callV1 (4097) [.int (nI (v)), .int (nI (j4))] [] lk_0_75 dc_X0_openLeaves_20 rfl rfl (s_0isOpen _ v j4 (by omega) (by omega)) (by first | rfl | (simp only [nI_add, pk_mul]; first | done | rfl)) rfl ?_
    refine AR.eq (tgt := 29) dc_X0_openLeaves_23 (by decide) (fun c23_2 => ?_) (fun c23_2 => ?_)
    · refine AR.run g_X0_openLeaves_29_2 4 [some (.ref 4097), some (.int (nI (v))), some (.int (L_0openLeaves_4 v T j4)), some (.int ((nI (j4)) + (nI (1))))] [] _ [] rfl trivial ?_
      have e3 : L_0openLeaves_4 v T (j4 + 1) = (L_0openLeaves_4 v T j4) := by rw [L_0openLeaves_4, B_0openLeaves_4, if_pos c23_2]
      exact AR.cast (L' := [some (.ref 4097), some (.int (nI (v))), some (.int (L_0openLeaves_4 v T (j4 + 1))), some (.int (nI (j4 + 1)))]) (by rw [e3, nI_add]) rfl rfl (ih4 (by first | trivial | omega))
    · refine AR.run g_X0_openLeaves_26_3 4 [some (.ref 4097), some (.int (nI (v))), some (.int ((L_0openLeaves_4 v T j4) + (nI (1)))), some (.int ((nI (j4)) + (nI (1))))] [] _ [] rfl trivial ?_
      have e4 : L_0openLeaves_4 v T (j4 + 1) = ((L_0openLeaves_4 v T j4) + (nI (1))) := by rw [L_0openLeaves_4, B_0openLeaves_4, if_neg c23_2]
      exact AR.cast (L' := [some (.ref 4097), some (.int (nI (v))), some (.int (L_0openLeaves_4 v T (j4 + 1))), some (.int (nI (j4 + 1)))]) (by rw [e4, nI_add]) rfl rfl (ih4 (by first | trivial | omega))
  · refine AR.run g_X0_openLeaves_4_5 11 [some (.ref 4097), some (.int (nI (v))), some (.int (L_0openLeaves_4 v T (lt T v))), some (.int (nI (lt T v)))] [.int (nI (2)), .int (nI (v)), .ref 4098, .int (nI (lt T v))] _ [] rfl trivial ?_
    refine AR.callV1 (4098) [.int (nI (v)), .int (nI (2))] [.int (nI (lt T v))] lk_0_45 dc_X0_openLeaves_11 rfl rfl (s_3atT0 _ v 2 (by omega) (by omega)) (by first | rfl | (simp only [nI_add, pk_mul]; first | done | rfl)) rfl ?_
    refine AR.top htl ?_
    refine AR.ge2N (tgt := 35) (a := lt T v) (b := (lt T v)) dc_X0_openLeaves_14 (by decide) (by first | rfl | (simp only [nI_add, pk_mul]; first | done | rfl)) (by first | rfl | (simp only [nI_add, pk_mul]; first | done | rfl)) (by omega) (by omega) (fun c14_5 => ?_) (fun c14_5 => absurd c14_5 (by omega))
    refine AR.run g_X0_openLeaves_35_1 36 [some (.ref 4097), some (.int (nI (v))), some (.int (L_0openLeaves_4 v T (lt T v))), some (.int (nI (lt T v)))] [.int (L_0openLeaves_4 v T (lt T v))] _ [] rfl trivial ?_
    exact AR.retI dc_X0_openLeaves_36 rfl rfl rfl
def B_0leavesInCondition_5 (v : Nat) (how : Int32) (T : Nat → Nat → Int32) (j5 : Nat) (x5_3 : Int32) : (Int32) := if ((T 1) (v * 120 + ((j5 * 3) + 0))) = how then (x5_3 + (nI (1))) else x5_3
def L_0leavesInCondition_5 (v : Nat) (how : Int32) (T : Nat → Nat → Int32) : Nat → (Int32)
  | 0 => nI (0)
  | j + 1 => B_0leavesInCondition_5 v how T j (L_0leavesInCondition_5 v how T  j)
theorem g_X0_leavesInCondition_0_4 : ab_oks M_X0_leavesInCondition [(0, .iconst 0, 1, 0, 0, 0, .int (nI (0))), (1, .istore_n 3, 1, 3, 0, 0, .null), (2, .iconst 0, 1, 0, 0, 0, .int (nI (0))), (3, .istore 4, 2, 4, 0, 0, .null)] = true := by decide +kernel
theorem g_X0_leavesInCondition_5_5 : ab_oks M_X0_leavesInCondition [(5, .iload 4, 2, 4, 0, 0, .null), (7, .aload_n 0, 1, 0, 0, 0, .null), (8, .getfield 14, 3, 0, 0, 89, .null), (11, .iload_n 1, 1, 1, 0, 0, .null), (12, .iconst 2, 1, 0, 0, 0, .int (nI (2)))] = true := by decide +kernel
theorem dc_X0_leavesInCondition_13 : decode (AM.bytes M_X0_leavesInCondition) 13 = .ok (.invokevirtual 45, 3) := by decide +kernel
theorem dc_X0_leavesInCondition_16 : decode (AM.bytes M_X0_leavesInCondition) 16 = .ok (.if_icmp .ge 30, 3) := by decide +kernel
theorem g_X0_leavesInCondition_19_8 : ab_oks M_X0_leavesInCondition [(19, .aload_n 0, 1, 0, 0, 0, .null), (20, .getfield 20, 3, 0, 1, 90, .null), (23, .iload_n 1, 1, 1, 0, 0, .null), (24, .iload 4, 2, 4, 0, 0, .null), (26, .iconst 3, 1, 0, 0, 0, .int (nI (3))), (27, .imul, 1, 0, 0, 0, .null), (28, .iconst 0, 1, 0, 0, 0, .int (nI (0))), (29, .iadd, 1, 0, 0, 0, .null)] = true := by decide +kernel
theorem dc_X0_leavesInCondition_30 : decode (AM.bytes M_X0_leavesInCondition) 30 = .ok (.invokevirtual 45, 3) := by decide +kernel
theorem g_X0_leavesInCondition_33_1 : ab_oks M_X0_leavesInCondition [(33, .iload_n 2, 1, 2, 0, 0, .null)] = true := by decide +kernel
theorem dc_X0_leavesInCondition_34 : decode (AM.bytes M_X0_leavesInCondition) 34 = .ok (.if_icmp .ne 6, 3) := by decide +kernel
theorem g_X0_leavesInCondition_40_2 : ab_oks M_X0_leavesInCondition [(40, .iinc 4 1, 3, 4, 0, 0, .int (nI (1))), (43, .goto (-38), 3, 5, 0, 0, .null)] = true := by decide +kernel
theorem g_X0_leavesInCondition_37_3 : ab_oks M_X0_leavesInCondition [(37, .iinc 3 1, 3, 3, 0, 0, .int (nI (1))), (40, .iinc 4 1, 3, 4, 0, 0, .int (nI (1))), (43, .goto (-38), 3, 5, 0, 0, .null)] = true := by decide +kernel
theorem g_X0_leavesInCondition_46_1 : ab_oks M_X0_leavesInCondition [(46, .iload_n 3, 1, 3, 0, 0, .null)] = true := by decide +kernel
theorem dc_X0_leavesInCondition_47 : decode (AM.bytes M_X0_leavesInCondition) 47 = .ok (.ireturn, 1) := by decide +kernel
set_option maxRecDepth 100000 in
set_option maxHeartbeats 4000000 in
theorem s_0leavesInCondition {E : AE} (d : Nat) (v : Nat) (how : Int32)  {o0 t0 p0 m0 u0 l0 : List AC} {T K : Nat → Nat → Int32} {os sc : Int32} (hv : v < 13) (htl : T 0 (v * 7 + 2) = nI (lt T v)) (ht40 : lt T v ≤ 40) : CT E M_X0_leavesInCondition (d + 1) [.ref 4097, .int (nI (v)), .int (how)] (hp o0 (ar T K os sc) t0 p0 m0 u0 l0) (.inl (some (.int (L_0leavesInCondition_5 v how T (lt T v))))) (hp o0 (ar T K os sc) t0 p0 m0 u0 l0) 0 0 := by
  refine CT.of (L := [some (.ref 4097), some (.int (nI (v))), some (.int (how)), none, none]) rfl rfl ?_
  refine AR.run g_X0_leavesInCondition_0_4 5 [some (.ref 4097), some (.int (nI (v))), some (.int (how)), some (.int (nI (0))), some (.int (nI (0)))] [] _ [] rfl trivial ?_
  refine AR.cast (L' := [some (.ref 4097), some (.int (nI (v))), some (.int (how)), some (.int (L_0leavesInCondition_5 v how T 0)), some (.int (nI (0)))]) (by first | rfl | (rw [L_0leavesInCondition_5])) rfl rfl (AR.loopN (lt T v) (fun j5 => [some (.ref 4097), some (.int (nI (v))), some (.int (how)), some (.int (L_0leavesInCondition_5 v how T j5)), some (.int (nI (j5)))]) (fun j5 => (hp o0 (ar T K os sc) t0 p0 m0 u0 l0)) (fun j5 => True) (fun j5 hj5 hI5 ih5 => ?_) (fun hI5 => ?_) 0 (by omega) (by first | trivial | omega))
  · refine AR.run g_X0_leavesInCondition_5_5 13 [some (.ref 4097), some (.int (nI (v))), some (.int (how)), some (.int (L_0leavesInCondition_5 v how T j5)), some (.int (nI (j5)))] [.int (nI (2)), .int (nI (v)), .ref 4098, .int (nI (j5))] _ [] rfl trivial ?_
    refine AR.callV1 (4098) [.int (nI (v)), .int (nI (2))] [.int (nI (j5))] lk_0_45 dc_X0_leavesInCondition_13 rfl rfl (s_3atT0 _ v 2 (by omega) (by omega)) (by first | rfl | (simp only [nI_add, pk_mul]; first | done | rfl)) rfl ?_
    refine AR.top htl ?_
    refine AR.ge2N (tgt := 46) (a := j5) (b := (lt T v)) dc_X0_leavesInCondition_16 (by decide) (by first | rfl | (simp only [nI_add, pk_mul]; first | done | rfl)) (by first | rfl | (simp only [nI_add, pk_mul]; first | done | rfl)) (by omega) (by omega) (fun c16_1 => absurd c16_1 (by omega)) (fun c16_1 => ?_)
    refine AR.run g_X0_leavesInCondition_19_8 30 [some (.ref 4097), some (.int (nI (v))), some (.int (how)), some (.int (L_0leavesInCondition_5 v how T j5)), some (.int (nI (j5)))] [.int (((nI (j5)) * (nI (3))) + (nI (0))), .int (nI (v)), .ref 4101] _ [] rfl trivial ?_
    refine AR.callV1 (4101) [.int (nI (v)), .int (nI (((j5 * 3) + 0)))] [] lk_0_45 dc_X0_leavesInCondition_30 rfl rfl (s_3atT1 _ v ((j5 * 3) + 0) (by omega) (by omega)) (by first | rfl | (simp only [nI_add, pk_mul]; first | done | rfl)) rfl ?_
    refine AR.run g_X0_leavesInCondition_33_1 34 [some (.ref 4097), some (.int (nI (v))), some (.int (how)), some (.int (L_0leavesInCondition_5 v how T j5)), some (.int (nI (j5)))] [.int (how), .int ((T 1) (v * 120 + ((j5 * 3) + 0)))] _ [] rfl trivial ?_
    refine AR.ne2 (tgt := 40) dc_X0_leavesInCondition_34 (by decide) (fun c34_2 => ?_) (fun c34_2 => ?_)
    · refine AR.run g_X0_leavesInCondition_40_2 5 [some (.ref 4097), some (.int (nI (v))), some (.int (how)), some (.int (L_0leavesInCondition_5 v how T j5)), some (.int ((nI (j5)) + (nI (1))))] [] _ [] rfl trivial ?_
      have e3 : L_0leavesInCondition_5 v how T (j5 + 1) = (L_0leavesInCondition_5 v how T j5) := by rw [L_0leavesInCondition_5, B_0leavesInCondition_5, if_neg c34_2]
      exact AR.cast (L' := [some (.ref 4097), some (.int (nI (v))), some (.int (how)), some (.int (L_0leavesInCondition_5 v how T (j5 + 1))), some (.int (nI (j5 + 1)))]) (by rw [e3, nI_add]) rfl rfl (ih5 (by first | trivial | omega))
    · refine AR.run g_X0_leavesInCondition_37_3 5 [some (.ref 4097), some (.int (nI (v))), some (.int (how)), some (.int ((L_0leavesInCondition_5 v how T j5) + (nI (1)))), some (.int ((nI (j5)) + (nI (1))))] [] _ [] rfl trivial ?_
      have e4 : L_0leavesInCondition_5 v how T (j5 + 1) = ((L_0leavesInCondition_5 v how T j5) + (nI (1))) := by rw [L_0leavesInCondition_5, B_0leavesInCondition_5, if_pos c34_2]
      exact AR.cast (L' := [some (.ref 4097), some (.int (nI (v))), some (.int (how)), some (.int (L_0leavesInCondition_5 v how T (j5 + 1))), some (.int (nI (j5 + 1)))]) (by rw [e4, nI_add]) rfl rfl (ih5 (by first | trivial | omega))
  · refine AR.run g_X0_leavesInCondition_5_5 13 [some (.ref 4097), some (.int (nI (v))), some (.int (how)), some (.int (L_0leavesInCondition_5 v how T (lt T v))), some (.int (nI (lt T v)))] [.int (nI (2)), .int (nI (v)), .ref 4098, .int (nI (lt T v))] _ [] rfl trivial ?_
    refine AR.callV1 (4098) [.int (nI (v)), .int (nI (2))] [.int (nI (lt T v))] lk_0_45 dc_X0_leavesInCondition_13 rfl rfl (s_3atT0 _ v 2 (by omega) (by omega)) (by first | rfl | (simp only [nI_add, pk_mul]; first | done | rfl)) rfl ?_
    refine AR.top htl ?_
    refine AR.ge2N (tgt := 46) (a := lt T v) (b := (lt T v)) dc_X0_leavesInCondition_16 (by decide) (by first | rfl | (simp only [nI_add, pk_mul]; first | done | rfl)) (by first | rfl | (simp only [nI_add, pk_mul]; first | done | rfl)) (by omega) (by omega) (fun c16_5 => ?_) (fun c16_5 => absurd c16_5 (by omega))
    refine AR.run g_X0_leavesInCondition_46_1 47 [some (.ref 4097), some (.int (nI (v))), some (.int (how)), some (.int (L_0leavesInCondition_5 v how T (lt T v))), some (.int (nI (lt T v)))] [.int (L_0leavesInCondition_5 v how T (lt T v))] _ [] rfl trivial ?_
    exact AR.retI dc_X0_leavesInCondition_47 rfl rfl rfl
def B_0scansOf_4 (v : Nat) (T : Nat → Nat → Int32) (j4 : Nat) (x4_2 : Int32) : (Int32) := (x4_2 + ((T 1) (v * 120 + ((j4 * 3) + 1))))
def L_0scansOf_4 (v : Nat) (T : Nat → Nat → Int32) : Nat → (Int32)
  | 0 => nI (0)
  | j + 1 => B_0scansOf_4 v T j (L_0scansOf_4 v T  j)
theorem g_X0_scansOf_0_4 : ab_oks M_X0_scansOf [(0, .iconst 0, 1, 0, 0, 0, .int (nI (0))), (1, .istore_n 2, 1, 2, 0, 0, .null), (2, .iconst 0, 1, 0, 0, 0, .int (nI (0))), (3, .istore_n 3, 1, 3, 0, 0, .null)] = true := by decide +kernel
theorem g_X0_scansOf_4_5 : ab_oks M_X0_scansOf [(4, .iload_n 3, 1, 3, 0, 0, .null), (5, .aload_n 0, 1, 0, 0, 0, .null), (6, .getfield 14, 3, 0, 0, 89, .null), (9, .iload_n 1, 1, 1, 0, 0, .null), (10, .iconst 2, 1, 0, 0, 0, .int (nI (2)))] = true := by decide +kernel
theorem dc_X0_scansOf_11 : decode (AM.bytes M_X0_scansOf) 11 = .ok (.invokevirtual 45, 3) := by decide +kernel
theorem dc_X0_scansOf_14 : decode (AM.bytes M_X0_scansOf) 14 = .ok (.if_icmp .ge 25, 3) := by decide +kernel
theorem g_X0_scansOf_17_9 : ab_oks M_X0_scansOf [(17, .iload_n 2, 1, 2, 0, 0, .null), (18, .aload_n 0, 1, 0, 0, 0, .null), (19, .getfield 20, 3, 0, 1, 90, .null), (22, .iload_n 1, 1, 1, 0, 0, .null), (23, .iload_n 3, 1, 3, 0, 0, .null), (24, .iconst 3, 1, 0, 0, 0, .int (nI (3))), (25, .imul, 1, 0, 0, 0, .null), (26, .iconst 1, 1, 0, 0, 0, .int (nI (1))), (27, .iadd, 1, 0, 0, 0, .null)] = true := by decide +kernel
theorem dc_X0_scansOf_28 : decode (AM.bytes M_X0_scansOf) 28 = .ok (.invokevirtual 45, 3) := by decide +kernel
theorem g_X0_scansOf_31_4 : ab_oks M_X0_scansOf [(31, .iadd, 1, 0, 0, 0, .null), (32, .istore_n 2, 1, 2, 0, 0, .null), (33, .iinc 3 1, 3, 3, 0, 0, .int (nI (1))), (36, .goto (-32), 3, 4, 0, 0, .null)] = true := by decide +kernel
theorem g_X0_scansOf_39_1 : ab_oks M_X0_scansOf [(39, .iload_n 2, 1, 2, 0, 0, .null)] = true := by decide +kernel
theorem dc_X0_scansOf_40 : decode (AM.bytes M_X0_scansOf) 40 = .ok (.ireturn, 1) := by decide +kernel
set_option maxRecDepth 100000 in
set_option maxHeartbeats 4000000 in
theorem s_0scansOf {E : AE} (d : Nat) (v : Nat)  {o0 t0 p0 m0 u0 l0 : List AC} {T K : Nat → Nat → Int32} {os sc : Int32} (hv : v < 13) (htl : T 0 (v * 7 + 2) = nI (lt T v)) (ht40 : lt T v ≤ 40) : CT E M_X0_scansOf (d + 1) [.ref 4097, .int (nI (v))] (hp o0 (ar T K os sc) t0 p0 m0 u0 l0) (.inl (some (.int (L_0scansOf_4 v T (lt T v))))) (hp o0 (ar T K os sc) t0 p0 m0 u0 l0) 0 0 := by
  refine CT.of (L := [some (.ref 4097), some (.int (nI (v))), none, none]) rfl rfl ?_
  refine AR.run g_X0_scansOf_0_4 4 [some (.ref 4097), some (.int (nI (v))), some (.int (nI (0))), some (.int (nI (0)))] [] _ [] rfl trivial ?_
  refine AR.cast (L' := [some (.ref 4097), some (.int (nI (v))), some (.int (L_0scansOf_4 v T 0)), some (.int (nI (0)))]) (by first | rfl | (rw [L_0scansOf_4])) rfl rfl (AR.loopN (lt T v) (fun j4 => [some (.ref 4097), some (.int (nI (v))), some (.int (L_0scansOf_4 v T j4)), some (.int (nI (j4)))]) (fun j4 => (hp o0 (ar T K os sc) t0 p0 m0 u0 l0)) (fun j4 => True) (fun j4 hj4 hI4 ih4 => ?_) (fun hI4 => ?_) 0 (by omega) (by first | trivial | omega))
  · refine AR.run g_X0_scansOf_4_5 11 [some (.ref 4097), some (.int (nI (v))), some (.int (L_0scansOf_4 v T j4)), some (.int (nI (j4)))] [.int (nI (2)), .int (nI (v)), .ref 4098, .int (nI (j4))] _ [] rfl trivial ?_
    refine AR.callV1 (4098) [.int (nI (v)), .int (nI (2))] [.int (nI (j4))] lk_0_45 dc_X0_scansOf_11 rfl rfl (s_3atT0 _ v 2 (by omega) (by omega)) (by first | rfl | (simp only [nI_add, pk_mul]; first | done | rfl)) rfl ?_
    refine AR.top htl ?_
    refine AR.ge2N (tgt := 39) (a := j4) (b := (lt T v)) dc_X0_scansOf_14 (by decide) (by first | rfl | (simp only [nI_add, pk_mul]; first | done | rfl)) (by first | rfl | (simp only [nI_add, pk_mul]; first | done | rfl)) (by omega) (by omega) (fun c14_1 => absurd c14_1 (by omega)) (fun c14_1 => ?_)
    refine AR.run g_X0_scansOf_17_9 28 [some (.ref 4097), some (.int (nI (v))), some (.int (L_0scansOf_4 v T j4)), some (.int (nI (j4)))] [.int (((nI (j4)) * (nI (3))) + (nI (1))), .int (nI (v)), .ref 4101, .int (L_0scansOf_4 v T j4)] _ [] rfl trivial ?_
    refine AR.callV1 (4101) [.int (nI (v)), .int (nI (((j4 * 3) + 1)))] [.int (L_0scansOf_4 v T j4)] lk_0_45 dc_X0_scansOf_28 rfl rfl (s_3atT1 _ v ((j4 * 3) + 1) (by omega) (by omega)) (by first | rfl | (simp only [nI_add, pk_mul]; first | done | rfl)) rfl ?_
    refine AR.run g_X0_scansOf_31_4 4 [some (.ref 4097), some (.int (nI (v))), some (.int ((L_0scansOf_4 v T j4) + ((T 1) (v * 120 + ((j4 * 3) + 1))))), some (.int ((nI (j4)) + (nI (1))))] [] _ [] rfl trivial ?_
    have e2 : L_0scansOf_4 v T (j4 + 1) = ((L_0scansOf_4 v T j4) + ((T 1) (v * 120 + ((j4 * 3) + 1)))) := by rw [L_0scansOf_4, B_0scansOf_4]
    exact AR.cast (L' := [some (.ref 4097), some (.int (nI (v))), some (.int (L_0scansOf_4 v T (j4 + 1))), some (.int (nI (j4 + 1)))]) (by rw [e2, nI_add]) rfl rfl (ih4 (by first | trivial | omega))
  · refine AR.run g_X0_scansOf_4_5 11 [some (.ref 4097), some (.int (nI (v))), some (.int (L_0scansOf_4 v T (lt T v))), some (.int (nI (lt T v)))] [.int (nI (2)), .int (nI (v)), .ref 4098, .int (nI (lt T v))] _ [] rfl trivial ?_
    refine AR.callV1 (4098) [.int (nI (v)), .int (nI (2))] [.int (nI (lt T v))] lk_0_45 dc_X0_scansOf_11 rfl rfl (s_3atT0 _ v 2 (by omega) (by omega)) (by first | rfl | (simp only [nI_add, pk_mul]; first | done | rfl)) rfl ?_
    refine AR.top htl ?_
    refine AR.ge2N (tgt := 39) (a := lt T v) (b := (lt T v)) dc_X0_scansOf_14 (by decide) (by first | rfl | (simp only [nI_add, pk_mul]; first | done | rfl)) (by first | rfl | (simp only [nI_add, pk_mul]; first | done | rfl)) (by omega) (by omega) (fun c14_3 => ?_) (fun c14_3 => absurd c14_3 (by omega))
    refine AR.run g_X0_scansOf_39_1 40 [some (.ref 4097), some (.int (nI (v))), some (.int (L_0scansOf_4 v T (lt T v))), some (.int (nI (lt T v)))] [.int (L_0scansOf_4 v T (lt T v))] _ [] rfl trivial ?_
    exact AR.retI dc_X0_scansOf_40 rfl rfl rfl
def B_0barredLeaves_4 (v : Nat) (T : Nat → Nat → Int32) (j4 : Nat) (x4_2 : Int32) : (Int32) := if ((T 1) (v * 120 + ((j4 * 3) + 2))) = 0 then x4_2 else (x4_2 + (nI (1)))
def L_0barredLeaves_4 (v : Nat) (T : Nat → Nat → Int32) : Nat → (Int32)
  | 0 => nI (0)
  | j + 1 => B_0barredLeaves_4 v T j (L_0barredLeaves_4 v T  j)
theorem g_X0_barredLeaves_0_4 : ab_oks M_X0_barredLeaves [(0, .iconst 0, 1, 0, 0, 0, .int (nI (0))), (1, .istore_n 2, 1, 2, 0, 0, .null), (2, .iconst 0, 1, 0, 0, 0, .int (nI (0))), (3, .istore_n 3, 1, 3, 0, 0, .null)] = true := by decide +kernel
theorem g_X0_barredLeaves_4_5 : ab_oks M_X0_barredLeaves [(4, .iload_n 3, 1, 3, 0, 0, .null), (5, .aload_n 0, 1, 0, 0, 0, .null), (6, .getfield 14, 3, 0, 0, 89, .null), (9, .iload_n 1, 1, 1, 0, 0, .null), (10, .iconst 2, 1, 0, 0, 0, .int (nI (2)))] = true := by decide +kernel
theorem dc_X0_barredLeaves_11 : decode (AM.bytes M_X0_barredLeaves) 11 = .ok (.invokevirtual 45, 3) := by decide +kernel
theorem dc_X0_barredLeaves_14 : decode (AM.bytes M_X0_barredLeaves) 14 = .ok (.if_icmp .ge 28, 3) := by decide +kernel
theorem g_X0_barredLeaves_17_8 : ab_oks M_X0_barredLeaves [(17, .aload_n 0, 1, 0, 0, 0, .null), (18, .getfield 20, 3, 0, 1, 90, .null), (21, .iload_n 1, 1, 1, 0, 0, .null), (22, .iload_n 3, 1, 3, 0, 0, .null), (23, .iconst 3, 1, 0, 0, 0, .int (nI (3))), (24, .imul, 1, 0, 0, 0, .null), (25, .iconst 2, 1, 0, 0, 0, .int (nI (2))), (26, .iadd, 1, 0, 0, 0, .null)] = true := by decide +kernel
theorem dc_X0_barredLeaves_27 : decode (AM.bytes M_X0_barredLeaves) 27 = .ok (.invokevirtual 45, 3) := by decide +kernel
theorem dc_X0_barredLeaves_30 : decode (AM.bytes M_X0_barredLeaves) 30 = .ok (.ifCond .eq 6, 3) := by decide +kernel
theorem g_X0_barredLeaves_36_2 : ab_oks M_X0_barredLeaves [(36, .iinc 3 1, 3, 3, 0, 0, .int (nI (1))), (39, .goto (-35), 3, 4, 0, 0, .null)] = true := by decide +kernel
theorem g_X0_barredLeaves_33_3 : ab_oks M_X0_barredLeaves [(33, .iinc 2 1, 3, 2, 0, 0, .int (nI (1))), (36, .iinc 3 1, 3, 3, 0, 0, .int (nI (1))), (39, .goto (-35), 3, 4, 0, 0, .null)] = true := by decide +kernel
theorem g_X0_barredLeaves_42_1 : ab_oks M_X0_barredLeaves [(42, .iload_n 2, 1, 2, 0, 0, .null)] = true := by decide +kernel
theorem dc_X0_barredLeaves_43 : decode (AM.bytes M_X0_barredLeaves) 43 = .ok (.ireturn, 1) := by decide +kernel
set_option maxRecDepth 100000 in
set_option maxHeartbeats 4000000 in
theorem s_0barredLeaves {E : AE} (d : Nat) (v : Nat)  {o0 t0 p0 m0 u0 l0 : List AC} {T K : Nat → Nat → Int32} {os sc : Int32} (hv : v < 13) (htl : T 0 (v * 7 + 2) = nI (lt T v)) (ht40 : lt T v ≤ 40) : CT E M_X0_barredLeaves (d + 1) [.ref 4097, .int (nI (v))] (hp o0 (ar T K os sc) t0 p0 m0 u0 l0) (.inl (some (.int (L_0barredLeaves_4 v T (lt T v))))) (hp o0 (ar T K os sc) t0 p0 m0 u0 l0) 0 0 := by
  refine CT.of (L := [some (.ref 4097), some (.int (nI (v))), none, none]) rfl rfl ?_
  refine AR.run g_X0_barredLeaves_0_4 4 [some (.ref 4097), some (.int (nI (v))), some (.int (nI (0))), some (.int (nI (0)))] [] _ [] rfl trivial ?_
  refine AR.cast (L' := [some (.ref 4097), some (.int (nI (v))), some (.int (L_0barredLeaves_4 v T 0)), some (.int (nI (0)))]) (by first | rfl | (rw [L_0barredLeaves_4])) rfl rfl (AR.loopN (lt T v) (fun j4 => [some (.ref 4097), some (.int (nI (v))), some (.int (L_0barredLeaves_4 v T j4)), some (.int (nI (j4)))]) (fun j4 => (hp o0 (ar T K os sc) t0 p0 m0 u0 l0)) (fun j4 => True) (fun j4 hj4 hI4 ih4 => ?_) (fun hI4 => ?_) 0 (by omega) (by first | trivial | omega))
  · refine AR.run g_X0_barredLeaves_4_5 11 [some (.ref 4097), some (.int (nI (v))), some (.int (L_0barredLeaves_4 v T j4)), some (.int (nI (j4)))] [.int (nI (2)), .int (nI (v)), .ref 4098, .int (nI (j4))] _ [] rfl trivial ?_
    refine AR.callV1 (4098) [.int (nI (v)), .int (nI (2))] [.int (nI (j4))] lk_0_45 dc_X0_barredLeaves_11 rfl rfl (s_3atT0 _ v 2 (by omega) (by omega)) (by first | rfl | (simp only [nI_add, pk_mul]; first | done | rfl)) rfl ?_
    refine AR.top htl ?_
    refine AR.ge2N (tgt := 42) (a := j4) (b := (lt T v)) dc_X0_barredLeaves_14 (by decide) (by first | rfl | (simp only [nI_add, pk_mul]; first | done | rfl)) (by first | rfl | (simp only [nI_add, pk_mul]; first | done | rfl)) (by omega) (by omega) (fun c14_1 => absurd c14_1 (by omega)) (fun c14_1 => ?_)
    refine AR.run g_X0_barredLeaves_17_8 27 [some (.ref 4097), some (.int (nI (v))), some (.int (L_0barredLeaves_4 v T j4)), some (.int (nI (j4)))] [.int (((nI (j4)) * (nI (3))) + (nI (2))), .int (nI (v)), .ref 4101] _ [] rfl trivial ?_
    refine AR.callV1 (4101) [.int (nI (v)), .int (nI (((j4 * 3) + 2)))] [] lk_0_45 dc_X0_barredLeaves_27 rfl rfl (s_3atT1 _ v ((j4 * 3) + 2) (by omega) (by omega)) (by first | rfl | (simp only [nI_add, pk_mul]; first | done | rfl)) rfl ?_
    refine AR.eq (tgt := 36) dc_X0_barredLeaves_30 (by decide) (fun c30_2 => ?_) (fun c30_2 => ?_)
    · refine AR.run g_X0_barredLeaves_36_2 4 [some (.ref 4097), some (.int (nI (v))), some (.int (L_0barredLeaves_4 v T j4)), some (.int ((nI (j4)) + (nI (1))))] [] _ [] rfl trivial ?_
      have e3 : L_0barredLeaves_4 v T (j4 + 1) = (L_0barredLeaves_4 v T j4) := by rw [L_0barredLeaves_4, B_0barredLeaves_4, if_pos c30_2]
      exact AR.cast (L' := [some (.ref 4097), some (.int (nI (v))), some (.int (L_0barredLeaves_4 v T (j4 + 1))), some (.int (nI (j4 + 1)))]) (by rw [e3, nI_add]) rfl rfl (ih4 (by first | trivial | omega))
    · refine AR.run g_X0_barredLeaves_33_3 4 [some (.ref 4097), some (.int (nI (v))), some (.int ((L_0barredLeaves_4 v T j4) + (nI (1)))), some (.int ((nI (j4)) + (nI (1))))] [] _ [] rfl trivial ?_
      have e4 : L_0barredLeaves_4 v T (j4 + 1) = ((L_0barredLeaves_4 v T j4) + (nI (1))) := by rw [L_0barredLeaves_4, B_0barredLeaves_4, if_neg c30_2]
      exact AR.cast (L' := [some (.ref 4097), some (.int (nI (v))), some (.int (L_0barredLeaves_4 v T (j4 + 1))), some (.int (nI (j4 + 1)))]) (by rw [e4, nI_add]) rfl rfl (ih4 (by first | trivial | omega))
  · refine AR.run g_X0_barredLeaves_4_5 11 [some (.ref 4097), some (.int (nI (v))), some (.int (L_0barredLeaves_4 v T (lt T v))), some (.int (nI (lt T v)))] [.int (nI (2)), .int (nI (v)), .ref 4098, .int (nI (lt T v))] _ [] rfl trivial ?_
    refine AR.callV1 (4098) [.int (nI (v)), .int (nI (2))] [.int (nI (lt T v))] lk_0_45 dc_X0_barredLeaves_11 rfl rfl (s_3atT0 _ v 2 (by omega) (by omega)) (by first | rfl | (simp only [nI_add, pk_mul]; first | done | rfl)) rfl ?_
    refine AR.top htl ?_
    refine AR.ge2N (tgt := 42) (a := lt T v) (b := (lt T v)) dc_X0_barredLeaves_14 (by decide) (by first | rfl | (simp only [nI_add, pk_mul]; first | done | rfl)) (by first | rfl | (simp only [nI_add, pk_mul]; first | done | rfl)) (by omega) (by omega) (fun c14_5 => ?_) (fun c14_5 => absurd c14_5 (by omega))
    refine AR.run g_X0_barredLeaves_42_1 43 [some (.ref 4097), some (.int (nI (v))), some (.int (L_0barredLeaves_4 v T (lt T v))), some (.int (nI (lt T v)))] [.int (L_0barredLeaves_4 v T (lt T v))] _ [] rfl trivial ?_
    exact AR.retI dc_X0_barredLeaves_43 rfl rfl rfl
def W_0nextLeaf_4 (v : Nat) (T : Nat → Nat → Int32) : Nat → Nat → (Int32) → (Int32)
  | 0, j4, x4_2 => x4_2
  | f4 + 1, j4, x4_2 => if ((T 1) (v * 120 + ((j4 * 3) + 0))) = (nI (2)) then (nI (j4)) else if ((T 1) (v * 120 + ((j4 * 3) + 0))) = 0 then if x4_2 = (-1) then W_0nextLeaf_4 v T f4 (j4 + 1) (nI (j4)) else W_0nextLeaf_4 v T f4 (j4 + 1) x4_2 else W_0nextLeaf_4 v T f4 (j4 + 1) x4_2
def F_0nextLeaf (v : Nat) (T : Nat → Nat → Int32) : Int32 := (W_0nextLeaf_4 v T (lt T v) 0 (-1))
theorem g_X0_nextLeaf_0_4 : ab_oks M_X0_nextLeaf [(0, .iconst (-1), 1, 0, 0, 0, .int (-1)), (1, .istore_n 2, 1, 2, 0, 0, .null), (2, .iconst 0, 1, 0, 0, 0, .int (nI (0))), (3, .istore_n 3, 1, 3, 0, 0, .null)] = true := by decide +kernel
theorem g_X0_nextLeaf_4_5 : ab_oks M_X0_nextLeaf [(4, .iload_n 3, 1, 3, 0, 0, .null), (5, .aload_n 0, 1, 0, 0, 0, .null), (6, .getfield 14, 3, 0, 0, 89, .null), (9, .iload_n 1, 1, 1, 0, 0, .null), (10, .iconst 2, 1, 0, 0, 0, .int (nI (2)))] = true := by decide +kernel
theorem dc_X0_nextLeaf_11 : decode (AM.bytes M_X0_nextLeaf) 11 = .ok (.invokevirtual 45, 3) := by decide +kernel
theorem dc_X0_nextLeaf_14 : decode (AM.bytes M_X0_nextLeaf) 14 = .ok (.if_icmp .ge 44, 3) := by decide +kernel
theorem g_X0_nextLeaf_58_1 : ab_oks M_X0_nextLeaf [(58, .iload_n 2, 1, 2, 0, 0, .null)] = true := by decide +kernel
theorem dc_X0_nextLeaf_59 : decode (AM.bytes M_X0_nextLeaf) 59 = .ok (.ireturn, 1) := by decide +kernel
theorem g_X0_nextLeaf_17_8 : ab_oks M_X0_nextLeaf [(17, .aload_n 0, 1, 0, 0, 0, .null), (18, .getfield 20, 3, 0, 1, 90, .null), (21, .iload_n 1, 1, 1, 0, 0, .null), (22, .iload_n 3, 1, 3, 0, 0, .null), (23, .iconst 3, 1, 0, 0, 0, .int (nI (3))), (24, .imul, 1, 0, 0, 0, .null), (25, .iconst 0, 1, 0, 0, 0, .int (nI (0))), (26, .iadd, 1, 0, 0, 0, .null)] = true := by decide +kernel
theorem dc_X0_nextLeaf_27 : decode (AM.bytes M_X0_nextLeaf) 27 = .ok (.invokevirtual 45, 3) := by decide +kernel
theorem g_X0_nextLeaf_30_3 : ab_oks M_X0_nextLeaf [(30, .istore 4, 2, 4, 0, 0, .null), (32, .iload 4, 2, 4, 0, 0, .null), (34, .iconst 2, 1, 0, 0, 0, .int (nI (2)))] = true := by decide +kernel
theorem dc_X0_nextLeaf_35 : decode (AM.bytes M_X0_nextLeaf) 35 = .ok (.if_icmp .ne 5, 3) := by decide +kernel
theorem g_X0_nextLeaf_40_1 : ab_oks M_X0_nextLeaf [(40, .iload 4, 2, 4, 0, 0, .null)] = true := by decide +kernel
theorem dc_X0_nextLeaf_42 : decode (AM.bytes M_X0_nextLeaf) 42 = .ok (.ifCond .ne 10, 3) := by decide +kernel
theorem g_X0_nextLeaf_52_2 : ab_oks M_X0_nextLeaf [(52, .iinc 3 1, 3, 3, 0, 0, .int (nI (1))), (55, .goto (-51), 3, 4, 0, 0, .null)] = true := by decide +kernel
theorem g_X0_nextLeaf_45_2 : ab_oks M_X0_nextLeaf [(45, .iload_n 2, 1, 2, 0, 0, .null), (46, .iconst (-1), 1, 0, 0, 0, .int (-1))] = true := by decide +kernel
theorem dc_X0_nextLeaf_47 : decode (AM.bytes M_X0_nextLeaf) 47 = .ok (.if_icmp .ne 5, 3) := by decide +kernel
theorem g_X0_nextLeaf_50_4 : ab_oks M_X0_nextLeaf [(50, .iload_n 3, 1, 3, 0, 0, .null), (51, .istore_n 2, 1, 2, 0, 0, .null), (52, .iinc 3 1, 3, 3, 0, 0, .int (nI (1))), (55, .goto (-51), 3, 4, 0, 0, .null)] = true := by decide +kernel
theorem g_X0_nextLeaf_38_1 : ab_oks M_X0_nextLeaf [(38, .iload_n 3, 1, 3, 0, 0, .null)] = true := by decide +kernel
theorem dc_X0_nextLeaf_39 : decode (AM.bytes M_X0_nextLeaf) 39 = .ok (.ireturn, 1) := by decide +kernel
set_option maxRecDepth 100000 in
set_option maxHeartbeats 4000000 in
theorem s_0nextLeaf {E : AE} (d : Nat) (v : Nat)  {o0 t0 p0 m0 u0 l0 : List AC} {T K : Nat → Nat → Int32} {os sc : Int32} (hv : v < 13) (htl : T 0 (v * 7 + 2) = nI (lt T v)) (ht40 : lt T v ≤ 40) : CT E M_X0_nextLeaf (d + 1) [.ref 4097, .int (nI (v))] (hp o0 (ar T K os sc) t0 p0 m0 u0 l0) (.inl (some (.int (F_0nextLeaf v T)))) (hp o0 (ar T K os sc) t0 p0 m0 u0 l0) 0 0 := by
  refine CT.of (L := [some (.ref 4097), some (.int (nI (v))), none, none, none]) rfl rfl ?_
  refine AR.run g_X0_nextLeaf_0_4 4 [some (.ref 4097), some (.int (nI (v))), some (.int (-1)), some (.int (nI (0))), none] [] _ [] rfl trivial ?_
  have hW : ∀ (f4 j4 : Nat) (x4_2 : Int32), j4 + f4 = (lt T v) → AR E M_X0_nextLeaf (d + 1) 4 [some (.ref 4097), some (.int (nI (v))), some (.int (x4_2)), some (.int (nI (j4))), none] [] (hp o0 (ar T K os sc) t0 p0 m0 u0 l0) (.inl (some (.int (W_0nextLeaf_4 v T f4 j4 x4_2)))) (hp o0 (ar T K os sc) t0 p0 m0 u0 l0) 0 0 := by
    intro f4
    induction f4 with
    | zero => 
      intro j4 x4_2 hj4
      refine AR.run g_X0_nextLeaf_4_5 11 [some (.ref 4097), some (.int (nI (v))), some (.int (x4_2)), some (.int (nI (j4))), none] [.int (nI (2)), .int (nI (v)), .ref 4098, .int (nI (j4))] _ [] rfl trivial ?_
      refine AR.callV1 (4098) [.int (nI (v)), .int (nI (2))] [.int (nI (j4))] lk_0_45 dc_X0_nextLeaf_11 rfl rfl (s_3atT0 _ v 2 (by omega) (by omega)) (by first | rfl | (simp only [nI_add, pk_mul]; first | done | rfl)) rfl ?_
      refine AR.top htl ?_
      refine AR.ge2N (tgt := 58) (a := j4) (b := (lt T v)) dc_X0_nextLeaf_14 (by decide) (by first | rfl | (simp only [nI_add, pk_mul]; first | done | rfl)) (by first | rfl | (simp only [nI_add, pk_mul]; first | done | rfl)) (by omega) (by omega) (fun c14_1 => ?_) (fun c14_1 => absurd c14_1 (by omega))
      refine AR.run g_X0_nextLeaf_58_1 59 [some (.ref 4097), some (.int (nI (v))), some (.int (x4_2)), some (.int (nI (j4))), none] [.int (x4_2)] _ [] rfl trivial ?_
      have e2 : W_0nextLeaf_4 v T 0 j4 x4_2 = x4_2 := by rw [W_0nextLeaf_4]
      rw [e2]
      exact AR.retI dc_X0_nextLeaf_59 rfl rfl rfl
    | succ f4 ih4 => 
      intro j4 x4_2 hj4
      refine AR.run g_X0_nextLeaf_4_5 11 [some (.ref 4097), some (.int (nI (v))), some (.int (x4_2)), some (.int (nI (j4))), none] [.int (nI (2)), .int (nI (v)), .ref 4098, .int (nI (j4))] _ [] rfl trivial ?_
      refine AR.callV1 (4098) [.int (nI (v)), .int (nI (2))] [.int (nI (j4))] lk_0_45 dc_X0_nextLeaf_11 rfl rfl (s_3atT0 _ v 2 (by omega) (by omega)) (by first | rfl | (simp only [nI_add, pk_mul]; first | done | rfl)) rfl ?_
      refine AR.top htl ?_
      refine AR.ge2N (tgt := 58) (a := j4) (b := (lt T v)) dc_X0_nextLeaf_14 (by decide) (by first | rfl | (simp only [nI_add, pk_mul]; first | done | rfl)) (by first | rfl | (simp only [nI_add, pk_mul]; first | done | rfl)) (by omega) (by omega) (fun c14_3 => absurd c14_3 (by omega)) (fun c14_3 => ?_)
      refine AR.run g_X0_nextLeaf_17_8 27 [some (.ref 4097), some (.int (nI (v))), some (.int (x4_2)), some (.int (nI (j4))), none] [.int (((nI (j4)) * (nI (3))) + (nI (0))), .int (nI (v)), .ref 4101] _ [] rfl trivial ?_
      refine AR.callV1 (4101) [.int (nI (v)), .int (nI (((j4 * 3) + 0)))] [] lk_0_45 dc_X0_nextLeaf_27 rfl rfl (s_3atT1 _ v ((j4 * 3) + 0) (by omega) (by omega)) (by first | rfl | (simp only [nI_add, pk_mul]; first | done | rfl)) rfl ?_
      refine AR.run g_X0_nextLeaf_30_3 35 [some (.ref 4097), some (.int (nI (v))), some (.int (x4_2)), some (.int (nI (j4))), some (.int ((T 1) (v * 120 + ((j4 * 3) + 0))))] [.int (nI (2)), .int ((T 1) (v * 120 + ((j4 * 3) + 0)))] _ [] rfl trivial ?_
      refine AR.ne2 (tgt := 40) dc_X0_nextLeaf_35 (by decide) (fun c35_4 => ?_) (fun c35_4 => ?_)
      · refine AR.run g_X0_nextLeaf_40_1 42 [some (.ref 4097), some (.int (nI (v))), some (.int (x4_2)), some (.int (nI (j4))), some (.int ((T 1) (v * 120 + ((j4 * 3) + 0))))] [.int ((T 1) (v * 120 + ((j4 * 3) + 0)))] _ [] rfl trivial ?_
        refine AR.ne (tgt := 52) dc_X0_nextLeaf_42 (by decide) (fun c42_5 => ?_) (fun c42_5 => ?_)
        · refine AR.run g_X0_nextLeaf_52_2 4 [some (.ref 4097), some (.int (nI (v))), some (.int (x4_2)), some (.int ((nI (j4)) + (nI (1)))), some (.int ((T 1) (v * 120 + ((j4 * 3) + 0))))] [] _ [] rfl trivial ?_
          refine AR.drop (L' := [some (.ref 4097), some (.int (nI (v))), some (.int (x4_2)), some (.int ((nI (j4)) + (nI (1)))), none]) ⟨rfl, rfl, rfl, rfl, trivial⟩ ?_
          have e6 : W_0nextLeaf_4 v T (f4 + 1) j4 x4_2 = W_0nextLeaf_4 v T f4 (j4 + 1) x4_2 := by rw [W_0nextLeaf_4, if_neg c35_4, if_neg c42_5]
          rw [e6]
          exact AR.cast (L' := [some (.ref 4097), some (.int (nI (v))), some (.int (x4_2)), some (.int (nI (j4 + 1))), none]) (by first | rfl | rw [nI_add]) rfl rfl (ih4 (j4 + 1) x4_2 (by omega) )
        · refine AR.run g_X0_nextLeaf_45_2 47 [some (.ref 4097), some (.int (nI (v))), some (.int (x4_2)), some (.int (nI (j4))), some (.int ((T 1) (v * 120 + ((j4 * 3) + 0))))] [.int (-1), .int (x4_2)] _ [] rfl trivial ?_
          refine AR.ne2 (tgt := 52) dc_X0_nextLeaf_47 (by decide) (fun c47_7 => ?_) (fun c47_7 => ?_)
          · refine AR.run g_X0_nextLeaf_52_2 4 [some (.ref 4097), some (.int (nI (v))), some (.int (x4_2)), some (.int ((nI (j4)) + (nI (1)))), some (.int ((T 1) (v * 120 + ((j4 * 3) + 0))))] [] _ [] rfl trivial ?_
            refine AR.drop (L' := [some (.ref 4097), some (.int (nI (v))), some (.int (x4_2)), some (.int ((nI (j4)) + (nI (1)))), none]) ⟨rfl, rfl, rfl, rfl, trivial⟩ ?_
            have e8 : W_0nextLeaf_4 v T (f4 + 1) j4 x4_2 = W_0nextLeaf_4 v T f4 (j4 + 1) x4_2 := by rw [W_0nextLeaf_4, if_neg c35_4, if_pos c42_5, if_neg c47_7]
            rw [e8]
            exact AR.cast (L' := [some (.ref 4097), some (.int (nI (v))), some (.int (x4_2)), some (.int (nI (j4 + 1))), none]) (by first | rfl | rw [nI_add]) rfl rfl (ih4 (j4 + 1) x4_2 (by omega) )
          · refine AR.run g_X0_nextLeaf_50_4 4 [some (.ref 4097), some (.int (nI (v))), some (.int (nI (j4))), some (.int ((nI (j4)) + (nI (1)))), some (.int ((T 1) (v * 120 + ((j4 * 3) + 0))))] [] _ [] rfl trivial ?_
            refine AR.drop (L' := [some (.ref 4097), some (.int (nI (v))), some (.int (nI (j4))), some (.int ((nI (j4)) + (nI (1)))), none]) ⟨rfl, rfl, rfl, rfl, trivial⟩ ?_
            have e9 : W_0nextLeaf_4 v T (f4 + 1) j4 x4_2 = W_0nextLeaf_4 v T f4 (j4 + 1) (nI (j4)) := by rw [W_0nextLeaf_4, if_neg c35_4, if_pos c42_5, if_pos c47_7]
            rw [e9]
            exact AR.cast (L' := [some (.ref 4097), some (.int (nI (v))), some (.int (nI (j4))), some (.int (nI (j4 + 1))), none]) (by first | rfl | rw [nI_add]) rfl rfl (ih4 (j4 + 1) (nI (j4)) (by omega) )
      · refine AR.run g_X0_nextLeaf_38_1 39 [some (.ref 4097), some (.int (nI (v))), some (.int (x4_2)), some (.int (nI (j4))), some (.int ((T 1) (v * 120 + ((j4 * 3) + 0))))] [.int (nI (j4))] _ [] rfl trivial ?_
        have e10 : W_0nextLeaf_4 v T (f4 + 1) j4 x4_2 = (nI (j4)) := by rw [W_0nextLeaf_4, if_pos c35_4]
        rw [e10]
        exact AR.retI dc_X0_nextLeaf_39 rfl rfl rfl
  have e12_0 : F_0nextLeaf v T = (W_0nextLeaf_4 v T (lt T v) 0 (-1)) := by rw [F_0nextLeaf]
  exact AR.end' (by first | rfl | (rw [e12_0])) rfl (AR.cast rfl rfl rfl (hW (lt T v) 0 (-1) (by omega)))
def F_0volumeFact (v : Nat) (w : Nat) (T : Nat → Nat → Int32) : Int32 := if w = 7 then (L_0leavesInCondition_5 v (nI (1)) T (lt T v)) else if w = 8 then (L_0leavesInCondition_5 v (nI (2)) T (lt T v)) else if w = 9 then (L_0openLeaves_4 v T (lt T v)) else if w = 10 then (F_0nextLeaf v T) else if w = 11 then (L_0scansOf_4 v T (lt T v)) else ((T 0) (v * 7 + w))
theorem g_X0_volumeFact_0_1 : ab_oks M_X0_volumeFact [(0, .iload_n 2, 1, 2, 0, 0, .null)] = true := by decide +kernel
theorem dc_X0_volumeFact_1 : decode (AM.bytes M_X0_volumeFact) 1 = .ok (.tableswitch 67 7 11 #[35, 42, 49, 55, 61], 35) := by decide +kernel
theorem g_X0_volumeFact_36_3 : ab_oks M_X0_volumeFact [(36, .aload_n 0, 1, 0, 0, 0, .null), (37, .iload_n 1, 1, 1, 0, 0, .null), (38, .iconst 1, 1, 0, 0, 0, .int (nI (1)))] = true := by decide +kernel
theorem lk_0_63 : ab_lkV "LeafCradles$Archive" 63 M_X0_leavesInCondition 2 [276, 278, 2, 30, 279] = true := by decide +kernel
theorem dc_X0_volumeFact_39 : decode (AM.bytes M_X0_volumeFact) 39 = .ok (.invokevirtual 63, 3) := by decide +kernel
theorem dc_X0_volumeFact_42 : decode (AM.bytes M_X0_volumeFact) 42 = .ok (.ireturn, 1) := by decide +kernel
theorem g_X0_volumeFact_43_3 : ab_oks M_X0_volumeFact [(43, .aload_n 0, 1, 0, 0, 0, .null), (44, .iload_n 1, 1, 1, 0, 0, .null), (45, .iconst 2, 1, 0, 0, 0, .int (nI (2)))] = true := by decide +kernel
theorem dc_X0_volumeFact_46 : decode (AM.bytes M_X0_volumeFact) 46 = .ok (.invokevirtual 63, 3) := by decide +kernel
theorem dc_X0_volumeFact_49 : decode (AM.bytes M_X0_volumeFact) 49 = .ok (.ireturn, 1) := by decide +kernel
theorem g_X0_volumeFact_50_2 : ab_oks M_X0_volumeFact [(50, .aload_n 0, 1, 0, 0, 0, .null), (51, .iload_n 1, 1, 1, 0, 0, .null)] = true := by decide +kernel
theorem lk_0_66 : ab_lkV "LeafCradles$Archive" 66 M_X0_openLeaves 1 [280, 282, 3, 30, 283] = true := by decide +kernel
theorem dc_X0_volumeFact_52 : decode (AM.bytes M_X0_volumeFact) 52 = .ok (.invokevirtual 66, 3) := by decide +kernel
theorem dc_X0_volumeFact_55 : decode (AM.bytes M_X0_volumeFact) 55 = .ok (.ireturn, 1) := by decide +kernel
theorem g_X0_volumeFact_56_2 : ab_oks M_X0_volumeFact [(56, .aload_n 0, 1, 0, 0, 0, .null), (57, .iload_n 1, 1, 1, 0, 0, .null)] = true := by decide +kernel
theorem lk_0_69 : ab_lkV "LeafCradles$Archive" 69 M_X0_nextLeaf 1 [288, 290, 5, 30, 291] = true := by decide +kernel
theorem dc_X0_volumeFact_58 : decode (AM.bytes M_X0_volumeFact) 58 = .ok (.invokevirtual 69, 3) := by decide +kernel
theorem dc_X0_volumeFact_61 : decode (AM.bytes M_X0_volumeFact) 61 = .ok (.ireturn, 1) := by decide +kernel
theorem g_X0_volumeFact_62_2 : ab_oks M_X0_volumeFact [(62, .aload_n 0, 1, 0, 0, 0, .null), (63, .iload_n 1, 1, 1, 0, 0, .null)] = true := by decide +kernel
theorem lk_0_72 : ab_lkV "LeafCradles$Archive" 72 M_X0_scansOf 1 [292, 294, 6, 30, 295] = true := by decide +kernel
theorem dc_X0_volumeFact_64 : decode (AM.bytes M_X0_volumeFact) 64 = .ok (.invokevirtual 72, 3) := by decide +kernel
theorem dc_X0_volumeFact_67 : decode (AM.bytes M_X0_volumeFact) 67 = .ok (.ireturn, 1) := by decide +kernel
theorem g_X0_volumeFact_68_4 : ab_oks M_X0_volumeFact [(68, .aload_n 0, 1, 0, 0, 0, .null), (69, .getfield 14, 3, 0, 0, 89, .null), (72, .iload_n 1, 1, 1, 0, 0, .null), (73, .iload_n 2, 1, 2, 0, 0, .null)] = true := by decide +kernel
theorem dc_X0_volumeFact_74 : decode (AM.bytes M_X0_volumeFact) 74 = .ok (.invokevirtual 45, 3) := by decide +kernel
theorem dc_X0_volumeFact_77 : decode (AM.bytes M_X0_volumeFact) 77 = .ok (.ireturn, 1) := by decide +kernel
set_option maxRecDepth 100000 in
set_option maxHeartbeats 4000000 in
theorem s_0volumeFact {E : AE} (d : Nat) (v : Nat) (w : Nat)  {o0 t0 p0 m0 u0 l0 : List AC} {T K : Nat → Nat → Int32} {os sc : Int32} (hv : v < 13) (htl : T 0 (v * 7 + 2) = nI (lt T v)) (ht40 : lt T v ≤ 40) (hw : w < 12) : CT E M_X0_volumeFact (d + 3) [.ref 4097, .int (nI (v)), .int (nI (w))] (hp o0 (ar T K os sc) t0 p0 m0 u0 l0) (.inl (some (.int (F_0volumeFact v w T)))) (hp o0 (ar T K os sc) t0 p0 m0 u0 l0) 0 0 := by
  refine CT.of (L := [some (.ref 4097), some (.int (nI (v))), some (.int (nI (w)))]) rfl rfl ?_
  refine AR.run g_X0_volumeFact_0_1 1 [some (.ref 4097), some (.int (nI (v))), some (.int (nI (w)))] [.int (nI (w))] _ [] rfl trivial ?_
  by_cases w1_1 : w = 7
  · refine AR.tswN (w := w) (tgt := 36) 7 dc_X0_volumeFact_1 (by first | rfl | (simp only [nI_add, pk_mul]; first | done | rfl)) w1_1 (by decide) 0 (by decide) (by decide) rfl (by decide) ?_
    refine AR.run g_X0_volumeFact_36_3 39 [some (.ref 4097), some (.int (nI (v))), some (.int (nI (w)))] [.int (nI (1)), .int (nI (v)), .ref 4097] _ [] rfl trivial ?_
    refine AR.callV1 (4097) [.int (nI (v)), .int (nI (1))] [] lk_0_63 dc_X0_volumeFact_39 rfl rfl (s_0leavesInCondition _ v (nI (1)) (by omega) (by first | assumption | exact (hLT v (by omega)).1) (by first | assumption | exact (hLT v (by omega)).2)) (by first | rfl | (simp only [nI_add, pk_mul]; first | done | rfl)) rfl ?_
    have e2_0 : F_0volumeFact v w T = (L_0leavesInCondition_5 v (nI (1)) T (lt T v)) := by rw [F_0volumeFact, if_pos w1_1]
    exact AR.retI dc_X0_volumeFact_42 rfl e2_0.symm rfl
  · by_cases w1_3 : w = 8
    · refine AR.tswN (w := w) (tgt := 43) 8 dc_X0_volumeFact_1 (by first | rfl | (simp only [nI_add, pk_mul]; first | done | rfl)) w1_3 (by decide) 1 (by decide) (by decide) rfl (by decide) ?_
      refine AR.run g_X0_volumeFact_43_3 46 [some (.ref 4097), some (.int (nI (v))), some (.int (nI (w)))] [.int (nI (2)), .int (nI (v)), .ref 4097] _ [] rfl trivial ?_
      refine AR.callV1 (4097) [.int (nI (v)), .int (nI (2))] [] lk_0_63 dc_X0_volumeFact_46 rfl rfl (s_0leavesInCondition _ v (nI (2)) (by omega) (by first | assumption | exact (hLT v (by omega)).1) (by first | assumption | exact (hLT v (by omega)).2)) (by first | rfl | (simp only [nI_add, pk_mul]; first | done | rfl)) rfl ?_
      have e4_0 : F_0volumeFact v w T = (L_0leavesInCondition_5 v (nI (2)) T (lt T v)) := by rw [F_0volumeFact, if_neg w1_1, if_pos w1_3]
      exact AR.retI dc_X0_volumeFact_49 rfl e4_0.symm rfl
    · by_cases w1_5 : w = 9
      · refine AR.tswN (w := w) (tgt := 50) 9 dc_X0_volumeFact_1 (by first | rfl | (simp only [nI_add, pk_mul]; first | done | rfl)) w1_5 (by decide) 2 (by decide) (by decide) rfl (by decide) ?_
        refine AR.run g_X0_volumeFact_50_2 52 [some (.ref 4097), some (.int (nI (v))), some (.int (nI (w)))] [.int (nI (v)), .ref 4097] _ [] rfl trivial ?_
        refine AR.callV1 (4097) [.int (nI (v))] [] lk_0_66 dc_X0_volumeFact_52 rfl rfl (s_0openLeaves _ v (by omega) (by first | assumption | exact (hLT v (by omega)).1) (by first | assumption | exact (hLT v (by omega)).2)) (by first | rfl | (simp only [nI_add, pk_mul]; first | done | rfl)) rfl ?_
        have e6_0 : F_0volumeFact v w T = (L_0openLeaves_4 v T (lt T v)) := by rw [F_0volumeFact, if_neg w1_1, if_neg w1_3, if_pos w1_5]
        exact AR.retI dc_X0_volumeFact_55 rfl e6_0.symm rfl
      · by_cases w1_7 : w = 10
        · refine AR.tswN (w := w) (tgt := 56) 10 dc_X0_volumeFact_1 (by first | rfl | (simp only [nI_add, pk_mul]; first | done | rfl)) w1_7 (by decide) 3 (by decide) (by decide) rfl (by decide) ?_
          refine AR.run g_X0_volumeFact_56_2 58 [some (.ref 4097), some (.int (nI (v))), some (.int (nI (w)))] [.int (nI (v)), .ref 4097] _ [] rfl trivial ?_
          refine AR.callV1 (4097) [.int (nI (v))] [] lk_0_69 dc_X0_volumeFact_58 rfl rfl (s_0nextLeaf _ v (by omega) (by first | assumption | exact (hLT v (by omega)).1) (by first | assumption | exact (hLT v (by omega)).2)) (by first | rfl | (simp only [nI_add, pk_mul]; first | done | rfl)) rfl ?_
          have e8_0 : F_0volumeFact v w T = (F_0nextLeaf v T) := by rw [F_0volumeFact, if_neg w1_1, if_neg w1_3, if_neg w1_5, if_pos w1_7]
          exact AR.retI dc_X0_volumeFact_61 rfl e8_0.symm rfl
        · by_cases w1_9 : w = 11
          · refine AR.tswN (w := w) (tgt := 62) 11 dc_X0_volumeFact_1 (by first | rfl | (simp only [nI_add, pk_mul]; first | done | rfl)) w1_9 (by decide) 4 (by decide) (by decide) rfl (by decide) ?_
            refine AR.run g_X0_volumeFact_62_2 64 [some (.ref 4097), some (.int (nI (v))), some (.int (nI (w)))] [.int (nI (v)), .ref 4097] _ [] rfl trivial ?_
            refine AR.callV1 (4097) [.int (nI (v))] [] lk_0_72 dc_X0_volumeFact_64 rfl rfl (s_0scansOf _ v (by omega) (by first | assumption | exact (hLT v (by omega)).1) (by first | assumption | exact (hLT v (by omega)).2)) (by first | rfl | (simp only [nI_add, pk_mul]; first | done | rfl)) rfl ?_
            have e10_0 : F_0volumeFact v w T = (L_0scansOf_4 v T (lt T v)) := by rw [F_0volumeFact, if_neg w1_1, if_neg w1_3, if_neg w1_5, if_neg w1_7, if_pos w1_9]
            exact AR.retI dc_X0_volumeFact_67 rfl e10_0.symm rfl
          · refine AR.tswdN (w := w) (tgt := 68) dc_X0_volumeFact_1 (by first | rfl | (simp only [nI_add, pk_mul]; first | done | rfl)) (by omega) (by omega) (by decide) ?_
            refine AR.run g_X0_volumeFact_68_4 74 [some (.ref 4097), some (.int (nI (v))), some (.int (nI (w)))] [.int (nI (w)), .int (nI (v)), .ref 4098] _ [] rfl trivial ?_
            refine AR.callV1 (4098) [.int (nI (v)), .int (nI (w))] [] lk_0_45 dc_X0_volumeFact_74 rfl rfl (s_3atT0 _ v w (by omega) (by omega)) (by first | rfl | (simp only [nI_add, pk_mul]; first | done | rfl)) rfl ?_
            have e11_0 : F_0volumeFact v w T = ((T 0) (v * 7 + w)) := by rw [F_0volumeFact, if_neg w1_1, if_neg w1_3, if_neg w1_5, if_neg w1_7, if_neg w1_9]
            exact AR.retI dc_X0_volumeFact_77 rfl e11_0.symm rfl
def F_0leafFact (v : Nat) (k : Nat) (w : Nat) (T : Nat → Nat → Int32) : Int32 := if w = 3 then if (F_0isOpen v k T) = 0 then (nI (0)) else (nI (1)) else ((T 1) (v * 120 + ((k * 3) + w)))
theorem g_X0_leafFact_0_2 : ab_oks M_X0_leafFact [(0, .iload_n 3, 1, 3, 0, 0, .null), (1, .iconst 3, 1, 0, 0, 0, .int (nI (3)))] = true := by decide +kernel
theorem dc_X0_leafFact_2 : decode (AM.bytes M_X0_leafFact) 2 = .ok (.if_icmp .ne 18, 3) := by decide +kernel
theorem g_X0_leafFact_20_8 : ab_oks M_X0_leafFact [(20, .aload_n 0, 1, 0, 0, 0, .null), (21, .getfield 20, 3, 0, 1, 90, .null), (24, .iload_n 1, 1, 1, 0, 0, .null), (25, .iload_n 2, 1, 2, 0, 0, .null), (26, .iconst 3, 1, 0, 0, 0, .int (nI (3))), (27, .imul, 1, 0, 0, 0, .null), (28, .iload_n 3, 1, 3, 0, 0, .null), (29, .iadd, 1, 0, 0, 0, .null)] = true := by decide +kernel
theorem dc_X0_leafFact_30 : decode (AM.bytes M_X0_leafFact) 30 = .ok (.invokevirtual 45, 3) := by decide +kernel
theorem dc_X0_leafFact_33 : decode (AM.bytes M_X0_leafFact) 33 = .ok (.ireturn, 1) := by decide +kernel
theorem g_X0_leafFact_5_3 : ab_oks M_X0_leafFact [(5, .aload_n 0, 1, 0, 0, 0, .null), (6, .iload_n 1, 1, 1, 0, 0, .null), (7, .iload_n 2, 1, 2, 0, 0, .null)] = true := by decide +kernel
theorem dc_X0_leafFact_8 : decode (AM.bytes M_X0_leafFact) 8 = .ok (.invokevirtual 75, 3) := by decide +kernel
theorem dc_X0_leafFact_11 : decode (AM.bytes M_X0_leafFact) 11 = .ok (.ifCond .eq 7, 3) := by decide +kernel
theorem g_X0_leafFact_18_1 : ab_oks M_X0_leafFact [(18, .iconst 0, 1, 0, 0, 0, .int (nI (0)))] = true := by decide +kernel
theorem dc_X0_leafFact_19 : decode (AM.bytes M_X0_leafFact) 19 = .ok (.ireturn, 1) := by decide +kernel
theorem g_X0_leafFact_14_2 : ab_oks M_X0_leafFact [(14, .iconst 1, 1, 0, 0, 0, .int (nI (1))), (15, .goto 4, 3, 19, 0, 0, .null)] = true := by decide +kernel
set_option maxRecDepth 100000 in
set_option maxHeartbeats 4000000 in
theorem s_0leafFact {E : AE} (d : Nat) (v : Nat) (k : Nat) (w : Nat)  {o0 t0 p0 m0 u0 l0 : List AC} {T K : Nat → Nat → Int32} {os sc : Int32} (hv : v < 13) (hk : k < 40) (hw : w < 4) : CT E M_X0_leafFact (d + 2) [.ref 4097, .int (nI (v)), .int (nI (k)), .int (nI (w))] (hp o0 (ar T K os sc) t0 p0 m0 u0 l0) (.inl (some (.int (F_0leafFact v k w T)))) (hp o0 (ar T K os sc) t0 p0 m0 u0 l0) 0 0 := by
  refine CT.of (L := [some (.ref 4097), some (.int (nI (v))), some (.int (nI (k))), some (.int (nI (w)))]) rfl rfl ?_
  refine AR.run g_X0_leafFact_0_2 2 [some (.ref 4097), some (.int (nI (v))), some (.int (nI (k))), some (.int (nI (w)))] [.int (nI (3)), .int (nI (w))] _ [] rfl trivial ?_
  refine AR.ne2N (tgt := 20) (a := w) (b := 3) dc_X0_leafFact_2 (by decide) (by first | rfl | (simp only [nI_add, pk_mul]; first | done | rfl)) (by first | rfl | (simp only [nI_add, pk_mul]; first | done | rfl)) (by omega) (by omega) (fun c2_1 => ?_) (fun c2_1 => ?_)
  · refine AR.run g_X0_leafFact_20_8 30 [some (.ref 4097), some (.int (nI (v))), some (.int (nI (k))), some (.int (nI (w)))] [.int (((nI (k)) * (nI (3))) + (nI (w))), .int (nI (v)), .ref 4101] _ [] rfl trivial ?_
    refine AR.callV1 (4101) [.int (nI (v)), .int (nI (((k * 3) + w)))] [] lk_0_45 dc_X0_leafFact_30 rfl rfl (s_3atT1 _ v ((k * 3) + w) (by omega) (by omega)) (by first | rfl | (simp only [nI_add, pk_mul]; first | done | rfl)) rfl ?_
    have e2_0 : F_0leafFact v k w T = ((T 1) (v * 120 + ((k * 3) + w))) := by rw [F_0leafFact, if_neg (show ¬ (w = 3) from by omega)]
    exact AR.retI dc_X0_leafFact_33 rfl e2_0.symm rfl
  · refine AR.run g_X0_leafFact_5_3 8 [some (.ref 4097), some (.int (nI (v))), some (.int (nI (k))), some (.int (nI (w)))] [.int (nI (k)), .int (nI (v)), .ref 4097] _ [] rfl trivial ?_
    refine AR.callV1 (4097) [.int (nI (v)), .int (nI (k))] [] lk_0_75 dc_X0_leafFact_8 rfl rfl (s_0isOpen _ v k (by omega) (by omega)) (by first | rfl | (simp only [nI_add, pk_mul]; first | done | rfl)) rfl ?_
    refine AR.eq (tgt := 18) dc_X0_leafFact_11 (by decide) (fun c11_3 => ?_) (fun c11_3 => ?_)
    · refine AR.run g_X0_leafFact_18_1 19 [some (.ref 4097), some (.int (nI (v))), some (.int (nI (k))), some (.int (nI (w)))] [.int (nI (0))] _ [] rfl trivial ?_
      have e4_0 : F_0leafFact v k w T = (nI (0)) := by rw [F_0leafFact, if_pos (show w = 3 from by omega), if_pos c11_3]
      exact AR.retI dc_X0_leafFact_19 rfl e4_0.symm rfl
    · refine AR.run g_X0_leafFact_14_2 19 [some (.ref 4097), some (.int (nI (v))), some (.int (nI (k))), some (.int (nI (w)))] [.int (nI (1))] _ [] rfl trivial ?_
      have e5_0 : F_0leafFact v k w T = (nI (1)) := by rw [F_0leafFact, if_pos (show w = 3 from by omega), if_neg c11_3]
      exact AR.retI dc_X0_leafFact_19 rfl e5_0.symm rfl
theorem g_X0_carrierFact_0_4 : ab_oks M_X0_carrierFact [(0, .aload_n 0, 1, 0, 0, 0, .null), (1, .getfield 26, 3, 0, 3, 92, .null), (4, .iload_n 1, 1, 1, 0, 0, .null), (5, .iload_n 2, 1, 2, 0, 0, .null)] = true := by decide +kernel
theorem dc_X0_carrierFact_6 : decode (AM.bytes M_X0_carrierFact) 6 = .ok (.invokevirtual 45, 3) := by decide +kernel
theorem dc_X0_carrierFact_9 : decode (AM.bytes M_X0_carrierFact) 9 = .ok (.ireturn, 1) := by decide +kernel
set_option maxRecDepth 100000 in
set_option maxHeartbeats 4000000 in
theorem s_0carrierFact {E : AE} (d : Nat) (c : Nat) (w : Nat)  {o0 t0 p0 m0 u0 l0 : List AC} {T K : Nat → Nat → Int32} {os sc : Int32} (hc : c < 3) (hw : w < 4) : CT E M_X0_carrierFact (d + 1) [.ref 4097, .int (nI (c)), .int (nI (w))] (hp o0 (ar T K os sc) t0 p0 m0 u0 l0) (.inl (some (.int ((T 3) (c * 4 + w))))) (hp o0 (ar T K os sc) t0 p0 m0 u0 l0) 0 0 := by
  refine CT.of (L := [some (.ref 4097), some (.int (nI (c))), some (.int (nI (w)))]) rfl rfl ?_
  refine AR.run g_X0_carrierFact_0_4 6 [some (.ref 4097), some (.int (nI (c))), some (.int (nI (w)))] [.int (nI (w)), .int (nI (c)), .ref 4107] _ [] rfl trivial ?_
  refine AR.callV1 (4107) [.int (nI (c)), .int (nI (w))] [] lk_0_45 dc_X0_carrierFact_6 rfl rfl (s_3atT3 _ c w (by omega) (by omega)) (by first | rfl | (simp only [nI_add, pk_mul]; first | done | rfl)) rfl ?_
  exact AR.retI dc_X0_carrierFact_9 rfl rfl rfl
theorem g_X0_entryFact_0_4 : ab_oks M_X0_entryFact [(0, .aload_n 0, 1, 0, 0, 0, .null), (1, .getfield 29, 3, 0, 4, 93, .null), (4, .iload_n 1, 1, 1, 0, 0, .null), (5, .iload_n 2, 1, 2, 0, 0, .null)] = true := by decide +kernel
theorem dc_X0_entryFact_6 : decode (AM.bytes M_X0_entryFact) 6 = .ok (.invokevirtual 45, 3) := by decide +kernel
theorem dc_X0_entryFact_9 : decode (AM.bytes M_X0_entryFact) 9 = .ok (.ireturn, 1) := by decide +kernel
set_option maxRecDepth 100000 in
set_option maxHeartbeats 4000000 in
theorem s_0entryFact {E : AE} (d : Nat) (c : Nat) (w : Nat)  {o0 t0 p0 m0 u0 l0 : List AC} {T K : Nat → Nat → Int32} {os sc : Int32} (hc : c < 60) (hw : w < 5) : CT E M_X0_entryFact (d + 1) [.ref 4097, .int (nI (c)), .int (nI (w))] (hp o0 (ar T K os sc) t0 p0 m0 u0 l0) (.inl (some (.int ((T 4) (c * 5 + w))))) (hp o0 (ar T K os sc) t0 p0 m0 u0 l0) 0 0 := by
  refine CT.of (L := [some (.ref 4097), some (.int (nI (c))), some (.int (nI (w)))]) rfl rfl ?_
  refine AR.run g_X0_entryFact_0_4 6 [some (.ref 4097), some (.int (nI (c))), some (.int (nI (w)))] [.int (nI (w)), .int (nI (c)), .ref 4110] _ [] rfl trivial ?_
  refine AR.callV1 (4110) [.int (nI (c)), .int (nI (w))] [] lk_0_45 dc_X0_entryFact_6 rfl rfl (s_3atT4 _ c w (by omega) (by omega)) (by first | rfl | (simp only [nI_add, pk_mul]; first | done | rfl)) rfl ?_
  exact AR.retI dc_X0_entryFact_9 rfl rfl rfl
def F_0reasonOfRest (c : Nat) (T : Nat → Nat → Int32) : Int32 := if ((T 2) (c * 5 + 2)) = (-1) then (nI (1)) else if ((T 0) ((((T 2) (c * 5 + 2)).toNatClampNeg) * 7 + 6)) ≤ 0 then if (F_0isGentleEnough c (((T 2) (c * 5 + 2)).toNatClampNeg) T) = 0 then (nI (3)) else if (F_0nextLeaf (((T 2) (c * 5 + 2)).toNatClampNeg) T) = (-1) then (nI (4)) else (nI (0)) else (nI (2))
theorem g_X0_reasonOfRest_0_4 : ab_oks M_X0_reasonOfRest [(0, .aload_n 0, 1, 0, 0, 0, .null), (1, .getfield 23, 3, 0, 2, 91, .null), (4, .iload_n 1, 1, 1, 0, 0, .null), (5, .iconst 2, 1, 0, 0, 0, .int (nI (2)))] = true := by decide +kernel
theorem dc_X0_reasonOfRest_6 : decode (AM.bytes M_X0_reasonOfRest) 6 = .ok (.invokevirtual 45, 3) := by decide +kernel
theorem g_X0_reasonOfRest_9_3 : ab_oks M_X0_reasonOfRest [(9, .istore_n 2, 1, 2, 0, 0, .null), (10, .iload_n 2, 1, 2, 0, 0, .null), (11, .iconst (-1), 1, 0, 0, 0, .int (-1))] = true := by decide +kernel
theorem dc_X0_reasonOfRest_12 : decode (AM.bytes M_X0_reasonOfRest) 12 = .ok (.if_icmp .ne 5, 3) := by decide +kernel
theorem g_X0_reasonOfRest_17_1 : ab_oks M_X0_reasonOfRest [(17, .aload_n 0, 1, 0, 0, 0, .null)] = true := by decide +kernel
theorem g_X0_reasonOfRest_18_3 : ab_oks M_X0_reasonOfRest [(18, .getfield 14, 3, 0, 0, 89, .null), (21, .iload_n 2, 1, 2, 0, 0, .null), (22, .bipush 6, 2, 0, 0, 0, .int (nI (6)))] = true := by decide +kernel
theorem dc_X0_reasonOfRest_24 : decode (AM.bytes M_X0_reasonOfRest) 24 = .ok (.invokevirtual 45, 3) := by decide +kernel
theorem dc_X0_reasonOfRest_27 : decode (AM.bytes M_X0_reasonOfRest) 27 = .ok (.ifCond .le 5, 3) := by decide +kernel
theorem g_X0_reasonOfRest_32_3 : ab_oks M_X0_reasonOfRest [(32, .aload_n 0, 1, 0, 0, 0, .null), (33, .iload_n 1, 1, 1, 0, 0, .null), (34, .iload_n 2, 1, 2, 0, 0, .null)] = true := by decide +kernel
theorem lk_0_96 : ab_lkV "LeafCradles$Archive" 96 M_X0_isGentleEnough 2 [392, 393, 394, 30, 395] = true := by decide +kernel
theorem dc_X0_reasonOfRest_35 : decode (AM.bytes M_X0_reasonOfRest) 35 = .ok (.invokevirtual 96, 3) := by decide +kernel
theorem dc_X0_reasonOfRest_38 : decode (AM.bytes M_X0_reasonOfRest) 38 = .ok (.ifCond .ne 5, 3) := by decide +kernel
theorem g_X0_reasonOfRest_43_2 : ab_oks M_X0_reasonOfRest [(43, .aload_n 0, 1, 0, 0, 0, .null), (44, .iload_n 2, 1, 2, 0, 0, .null)] = true := by decide +kernel
theorem dc_X0_reasonOfRest_45 : decode (AM.bytes M_X0_reasonOfRest) 45 = .ok (.invokevirtual 69, 3) := by decide +kernel
theorem g_X0_reasonOfRest_48_1 : ab_oks M_X0_reasonOfRest [(48, .iconst (-1), 1, 0, 0, 0, .int (-1))] = true := by decide +kernel
theorem dc_X0_reasonOfRest_49 : decode (AM.bytes M_X0_reasonOfRest) 49 = .ok (.if_icmp .ne 7, 3) := by decide +kernel
theorem g_X0_reasonOfRest_56_1 : ab_oks M_X0_reasonOfRest [(56, .iconst 0, 1, 0, 0, 0, .int (nI (0)))] = true := by decide +kernel
theorem dc_X0_reasonOfRest_57 : decode (AM.bytes M_X0_reasonOfRest) 57 = .ok (.ireturn, 1) := by decide +kernel
theorem g_X0_reasonOfRest_52_2 : ab_oks M_X0_reasonOfRest [(52, .iconst 4, 1, 0, 0, 0, .int (nI (4))), (53, .goto 4, 3, 57, 0, 0, .null)] = true := by decide +kernel
theorem g_X0_reasonOfRest_41_1 : ab_oks M_X0_reasonOfRest [(41, .iconst 3, 1, 0, 0, 0, .int (nI (3)))] = true := by decide +kernel
theorem dc_X0_reasonOfRest_42 : decode (AM.bytes M_X0_reasonOfRest) 42 = .ok (.ireturn, 1) := by decide +kernel
theorem g_X0_reasonOfRest_30_1 : ab_oks M_X0_reasonOfRest [(30, .iconst 2, 1, 0, 0, 0, .int (nI (2)))] = true := by decide +kernel
theorem dc_X0_reasonOfRest_31 : decode (AM.bytes M_X0_reasonOfRest) 31 = .ok (.ireturn, 1) := by decide +kernel
theorem g_X0_reasonOfRest_15_1 : ab_oks M_X0_reasonOfRest [(15, .iconst 1, 1, 0, 0, 0, .int (nI (1)))] = true := by decide +kernel
theorem dc_X0_reasonOfRest_16 : decode (AM.bytes M_X0_reasonOfRest) 16 = .ok (.ireturn, 1) := by decide +kernel
set_option maxRecDepth 100000 in
set_option maxHeartbeats 4000000 in
theorem s_0reasonOfRest {E : AE} (d : Nat) (c : Nat) {nv : Nat} {nc : Nat} {nr : Nat} {ne : Nat}  {o0 t0 p0 m0 u0 l0 : List AC} {T K : Nat → Nat → Int32} {os sc : Int32} (hT : TI T nv nc nr ne) (hc : c < 4) : CT E M_X0_reasonOfRest (d + 2) [.ref 4097, .int (nI (c))] (hp o0 (ar T K os sc) t0 p0 m0 u0 l0) (.inl (some (.int (F_0reasonOfRest c T)))) (hp o0 (ar T K os sc) t0 p0 m0 u0 l0) 0 0 := by
  obtain ⟨⟨hnv, h12⟩, ⟨hnc, h4⟩, ⟨hnr, h3⟩, ⟨hne, h60⟩, hLT, hHT⟩ := id hT
  refine CT.of (L := [some (.ref 4097), some (.int (nI (c))), none]) rfl rfl ?_
  refine AR.run g_X0_reasonOfRest_0_4 6 [some (.ref 4097), some (.int (nI (c))), none] [.int (nI (2)), .int (nI (c)), .ref 4104] _ [] rfl trivial ?_
  refine AR.callV1 (4104) [.int (nI (c)), .int (nI (2))] [] lk_0_45 dc_X0_reasonOfRest_6 rfl rfl (s_3atT2 _ c 2 (by omega) (by omega)) (by first | rfl | (simp only [nI_add, pk_mul]; first | done | rfl)) rfl ?_
  refine AR.run g_X0_reasonOfRest_9_3 12 [some (.ref 4097), some (.int (nI (c))), some (.int ((T 2) (c * 5 + 2)))] [.int (-1), .int ((T 2) (c * 5 + 2))] _ [] rfl trivial ?_
  refine AR.ne2 (tgt := 17) dc_X0_reasonOfRest_12 (by decide) (fun c12_1 => ?_) (fun c12_1 => ?_)
  · refine AR.run g_X0_reasonOfRest_17_1 18 [some (.ref 4097), some (.int (nI (c))), some (.int ((T 2) (c * 5 + 2)))] [.ref 4097] _ [] rfl trivial ?_
    obtain ⟨hx9, hy9⟩ := QI_get (by omega) (hHT _ (by omega)) (by assumption)
    refine AR.cast (L' := [some (.ref 4097), some (.int (nI (c))), some (.int (nI (((T 2) (c * 5 + 2)).toNatClampNeg)))]) (by rw [← hx9]) rfl rfl ?_
    refine AR.run g_X0_reasonOfRest_18_3 24 [some (.ref 4097), some (.int (nI (c))), some (.int (nI (((T 2) (c * 5 + 2)).toNatClampNeg)))] [.int (nI (6)), .int (nI (((T 2) (c * 5 + 2)).toNatClampNeg)), .ref 4098] _ [] rfl trivial ?_
    refine AR.callV1 (4098) [.int (nI (((T 2) (c * 5 + 2)).toNatClampNeg)), .int (nI (6))] [] lk_0_45 dc_X0_reasonOfRest_24 rfl rfl (s_3atT0 _ (((T 2) (c * 5 + 2)).toNatClampNeg) 6 (by omega) (by omega)) (by first | rfl | (simp only [nI_add, pk_mul]; first | done | rfl)) rfl ?_
    refine AR.le (tgt := 32) dc_X0_reasonOfRest_27 (by decide) (fun c27_2 => ?_) (fun c27_2 => ?_)
    · refine AR.run g_X0_reasonOfRest_32_3 35 [some (.ref 4097), some (.int (nI (c))), some (.int (nI (((T 2) (c * 5 + 2)).toNatClampNeg)))] [.int (nI (((T 2) (c * 5 + 2)).toNatClampNeg)), .int (nI (c)), .ref 4097] _ [] rfl trivial ?_
      refine AR.callV1 (4097) [.int (nI (c)), .int (nI (((T 2) (c * 5 + 2)).toNatClampNeg))] [] lk_0_96 dc_X0_reasonOfRest_35 rfl rfl (s_0isGentleEnough _ c (((T 2) (c * 5 + 2)).toNatClampNeg) (by omega) (by omega)) (by first | rfl | (simp only [nI_add, pk_mul]; first | done | rfl)) rfl ?_
      refine AR.ne (tgt := 43) dc_X0_reasonOfRest_38 (by decide) (fun c38_3 => ?_) (fun c38_3 => ?_)
      · refine AR.run g_X0_reasonOfRest_43_2 45 [some (.ref 4097), some (.int (nI (c))), some (.int (nI (((T 2) (c * 5 + 2)).toNatClampNeg)))] [.int (nI (((T 2) (c * 5 + 2)).toNatClampNeg)), .ref 4097] _ [] rfl trivial ?_
        refine AR.callV1 (4097) [.int (nI (((T 2) (c * 5 + 2)).toNatClampNeg))] [] lk_0_69 dc_X0_reasonOfRest_45 rfl rfl (s_0nextLeaf _ (((T 2) (c * 5 + 2)).toNatClampNeg) (by omega) (by first | assumption | exact (hLT (((T 2) (c * 5 + 2)).toNatClampNeg) (by omega)).1) (by first | assumption | exact (hLT (((T 2) (c * 5 + 2)).toNatClampNeg) (by omega)).2)) (by first | rfl | (simp only [nI_add, pk_mul]; first | done | rfl)) rfl ?_
        refine AR.run g_X0_reasonOfRest_48_1 49 [some (.ref 4097), some (.int (nI (c))), some (.int (nI (((T 2) (c * 5 + 2)).toNatClampNeg)))] [.int (-1), .int (F_0nextLeaf (((T 2) (c * 5 + 2)).toNatClampNeg) T)] _ [] rfl trivial ?_
        refine AR.ne2 (tgt := 56) dc_X0_reasonOfRest_49 (by decide) (fun c49_4 => ?_) (fun c49_4 => ?_)
        · refine AR.run g_X0_reasonOfRest_56_1 57 [some (.ref 4097), some (.int (nI (c))), some (.int (nI (((T 2) (c * 5 + 2)).toNatClampNeg)))] [.int (nI (0))] _ [] rfl trivial ?_
          have e5_0 : F_0reasonOfRest c T = (nI (0)) := by rw [F_0reasonOfRest, if_neg c12_1, if_pos c27_2, if_neg c38_3, if_neg c49_4]
          exact AR.retI dc_X0_reasonOfRest_57 rfl e5_0.symm rfl
        · refine AR.run g_X0_reasonOfRest_52_2 57 [some (.ref 4097), some (.int (nI (c))), some (.int (nI (((T 2) (c * 5 + 2)).toNatClampNeg)))] [.int (nI (4))] _ [] rfl trivial ?_
          have e6_0 : F_0reasonOfRest c T = (nI (4)) := by rw [F_0reasonOfRest, if_neg c12_1, if_pos c27_2, if_neg c38_3, if_pos c49_4]
          exact AR.retI dc_X0_reasonOfRest_57 rfl e6_0.symm rfl
      · refine AR.run g_X0_reasonOfRest_41_1 42 [some (.ref 4097), some (.int (nI (c))), some (.int (nI (((T 2) (c * 5 + 2)).toNatClampNeg)))] [.int (nI (3))] _ [] rfl trivial ?_
        have e7_0 : F_0reasonOfRest c T = (nI (3)) := by rw [F_0reasonOfRest, if_neg c12_1, if_pos c27_2, if_pos c38_3]
        exact AR.retI dc_X0_reasonOfRest_42 rfl e7_0.symm rfl
    · refine AR.run g_X0_reasonOfRest_30_1 31 [some (.ref 4097), some (.int (nI (c))), some (.int (nI (((T 2) (c * 5 + 2)).toNatClampNeg)))] [.int (nI (2))] _ [] rfl trivial ?_
      have e8_0 : F_0reasonOfRest c T = (nI (2)) := by rw [F_0reasonOfRest, if_neg c12_1, if_neg c27_2]
      exact AR.retI dc_X0_reasonOfRest_31 rfl e8_0.symm rfl
  · refine AR.run g_X0_reasonOfRest_15_1 16 [some (.ref 4097), some (.int (nI (c))), some (.int ((T 2) (c * 5 + 2)))] [.int (nI (1))] _ [] rfl trivial ?_
    have e9_0 : F_0reasonOfRest c T = (nI (1)) := by rw [F_0reasonOfRest, if_pos c12_1]
    exact AR.retI dc_X0_reasonOfRest_16 rfl e9_0.symm rfl
def F_0cradleFact (c : Nat) (w : Nat) (T : Nat → Nat → Int32) : Int32 := if w = 5 then (F_0reasonOfRest c T) else ((T 2) (c * 5 + w))
theorem g_X0_cradleFact_0_2 : ab_oks M_X0_cradleFact [(0, .iload_n 2, 1, 2, 0, 0, .null), (1, .iconst 5, 1, 0, 0, 0, .int (nI (5)))] = true := by decide +kernel
theorem dc_X0_cradleFact_2 : decode (AM.bytes M_X0_cradleFact) 2 = .ok (.if_icmp .ne 11, 3) := by decide +kernel
theorem g_X0_cradleFact_13_4 : ab_oks M_X0_cradleFact [(13, .aload_n 0, 1, 0, 0, 0, .null), (14, .getfield 23, 3, 0, 2, 91, .null), (17, .iload_n 1, 1, 1, 0, 0, .null), (18, .iload_n 2, 1, 2, 0, 0, .null)] = true := by decide +kernel
theorem dc_X0_cradleFact_19 : decode (AM.bytes M_X0_cradleFact) 19 = .ok (.invokevirtual 45, 3) := by decide +kernel
theorem dc_X0_cradleFact_22 : decode (AM.bytes M_X0_cradleFact) 22 = .ok (.ireturn, 1) := by decide +kernel
theorem g_X0_cradleFact_5_2 : ab_oks M_X0_cradleFact [(5, .aload_n 0, 1, 0, 0, 0, .null), (6, .iload_n 1, 1, 1, 0, 0, .null)] = true := by decide +kernel
theorem lk_0_79 : ab_lkV "LeafCradles$Archive" 79 M_X0_reasonOfRest 1 [388, 390, 10, 30, 391] = true := by decide +kernel
theorem dc_X0_cradleFact_7 : decode (AM.bytes M_X0_cradleFact) 7 = .ok (.invokevirtual 79, 3) := by decide +kernel
theorem g_X0_cradleFact_10_1 : ab_oks M_X0_cradleFact [(10, .goto 12, 3, 22, 0, 0, .null)] = true := by decide +kernel
set_option maxRecDepth 100000 in
set_option maxHeartbeats 4000000 in
theorem s_0cradleFact {E : AE} (d : Nat) (c : Nat) (w : Nat) {nv : Nat} {nc : Nat} {nr : Nat} {ne : Nat}  {o0 t0 p0 m0 u0 l0 : List AC} {T K : Nat → Nat → Int32} {os sc : Int32} (hT : TI T nv nc nr ne) (hc : c < 4) (hw : w < 6) : CT E M_X0_cradleFact (d + 3) [.ref 4097, .int (nI (c)), .int (nI (w))] (hp o0 (ar T K os sc) t0 p0 m0 u0 l0) (.inl (some (.int (F_0cradleFact c w T)))) (hp o0 (ar T K os sc) t0 p0 m0 u0 l0) 0 0 := by
  obtain ⟨⟨hnv, h12⟩, ⟨hnc, h4⟩, ⟨hnr, h3⟩, ⟨hne, h60⟩, hLT, hHT⟩ := id hT
  refine CT.of (L := [some (.ref 4097), some (.int (nI (c))), some (.int (nI (w)))]) rfl rfl ?_
  refine AR.run g_X0_cradleFact_0_2 2 [some (.ref 4097), some (.int (nI (c))), some (.int (nI (w)))] [.int (nI (5)), .int (nI (w))] _ [] rfl trivial ?_
  refine AR.ne2N (tgt := 13) (a := w) (b := 5) dc_X0_cradleFact_2 (by decide) (by first | rfl | (simp only [nI_add, pk_mul]; first | done | rfl)) (by first | rfl | (simp only [nI_add, pk_mul]; first | done | rfl)) (by omega) (by omega) (fun c2_1 => ?_) (fun c2_1 => ?_)
  · refine AR.run g_X0_cradleFact_13_4 19 [some (.ref 4097), some (.int (nI (c))), some (.int (nI (w)))] [.int (nI (w)), .int (nI (c)), .ref 4104] _ [] rfl trivial ?_
    refine AR.callV1 (4104) [.int (nI (c)), .int (nI (w))] [] lk_0_45 dc_X0_cradleFact_19 rfl rfl (s_3atT2 _ c w (by omega) (by omega)) (by first | rfl | (simp only [nI_add, pk_mul]; first | done | rfl)) rfl ?_
    have e2_0 : F_0cradleFact c w T = ((T 2) (c * 5 + w)) := by rw [F_0cradleFact, if_neg (show ¬ (w = 5) from by omega)]
    exact AR.retI dc_X0_cradleFact_22 rfl e2_0.symm rfl
  · refine AR.run g_X0_cradleFact_5_2 7 [some (.ref 4097), some (.int (nI (c))), some (.int (nI (w)))] [.int (nI (c)), .ref 4097] _ [] rfl trivial ?_
    refine AR.callV1 (4097) [.int (nI (c))] [] lk_0_79 dc_X0_cradleFact_7 rfl rfl (s_0reasonOfRest _ c (by assumption) (by omega)) (by first | rfl | (simp only [nI_add, pk_mul]; first | done | rfl)) rfl ?_
    refine AR.run g_X0_cradleFact_10_1 22 [some (.ref 4097), some (.int (nI (c))), some (.int (nI (w)))] [.int (F_0reasonOfRest c T)] _ [] rfl trivial ?_
    have e3_0 : F_0cradleFact c w T = (F_0reasonOfRest c T) := by rw [F_0cradleFact, if_pos (show w = 5 from by omega)]
    exact AR.retI dc_X0_cradleFact_22 rfl e3_0.symm rfl
