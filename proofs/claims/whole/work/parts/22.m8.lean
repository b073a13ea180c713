/-- n minutes -/
def mnN (nv nc nr : Nat) (z : Nat → Int32) : Nat → (Nat → Int32)
  | 0 => z
  | j + 1 => F_5minute_z nv nc nr (mnN nv nc nr z j)
theorem ZI_mnN {z : Nat → Int32} {nv nc nr ne : Nat} (hZ : ZI z nv nc nr ne) : ∀ j : Nat, ZI (mnN nv nc nr z j) nv nc nr ne
  | 0 => hZ
  | j + 1 => ZI_minute (ZI_mnN hZ j)
def B_5passedNow_13 (nv : Nat) (nc : Nat) (nr : Nat) (j13 : Nat) (y13_z : Nat → Int32) : (Nat → Int32) := (F_5minute_z nv nc nr y13_z)
def L_5passedNow_13 (nv : Nat) (nc : Nat) (nr : Nat) (z : Nat → Int32) : Nat → (Nat → Int32)
  | 0 => z
  | j + 1 => B_5passedNow_13 nv nc nr j (L_5passedNow_13 nv nc nr z  j)
theorem pN_mn (nv nc nr : Nat) (z : Nat → Int32) : ∀ j : Nat, L_5passedNow_13 nv nc nr z j = mnN nv nc nr z j
  | 0 => rfl
  | j + 1 => by
    show F_5minute_z nv nc nr (L_5passedNow_13 nv nc nr z j) = _
    rw [pN_mn nv nc nr z j]
    rfl
def F_5passedNow (m : Nat) (c : Int32) (nv : Nat) (nc : Nat) (nr : Nat) (z : Nat → Int32) : Int32 := ((L_5doneBy_4 c (L_5passedNow_13 nv nc nr z m) nc) - (L_5doneBy_4 c z nc))
def F_5passedNow_z (m : Nat) (nv : Nat) (nc : Nat) (nr : Nat) (z : Nat → Int32) (sa : Nat → Int32) : Nat → Int32 := (cpK (cpK z sa 1863) (L_5passedNow_13 nv nc nr z m) 1863)
def F_5passedNow_sa (z : Nat → Int32) (sa : Nat → Int32) : Nat → Int32 := (cpK z sa 1863)
theorem g_X5_passedNow_0_2 : ab_oks M_X5_passedNow [(0, .aload_n 0, 1, 0, 0, 0, .null), (1, .iload_n 2, 1, 2, 0, 0, .null)] = true := by decide +kernel
theorem lk_5_182 : ab_lkV "LeafCradlesModel" 182 M_X5_doneBy 1 [1247, 1249, 72, 97, 1250] = true := by decide +kernel
theorem dc_X5_passedNow_2 : decode (AM.bytes M_X5_passedNow) 2 = .ok (.invokevirtual 182, 3) := by decide +kernel
theorem g_X5_passedNow_5_2 : ab_oks M_X5_passedNow [(5, .istore_n 3, 1, 3, 0, 0, .null), (6, .aload_n 0, 1, 0, 0, 0, .null)] = true := by decide +kernel
theorem lk_5_185 : ab_lkV "LeafCradlesModel" 185 M_X5_keep 0 [1251, 1253, 73, 97, 1254] = true := by decide +kernel
theorem dc_X5_passedNow_7 : decode (AM.bytes M_X5_passedNow) 7 = .ok (.invokevirtual 185, 3) := by decide +kernel
theorem g_X5_passedNow_10_2 : ab_oks M_X5_passedNow [(10, .iconst 0, 1, 0, 0, 0, .int (nI (0))), (11, .istore 4, 2, 4, 0, 0, .null)] = true := by decide +kernel
theorem g_X5_passedNow_13_2 : ab_oks M_X5_passedNow [(13, .iload 4, 2, 4, 0, 0, .null), (15, .iload_n 1, 1, 1, 0, 0, .null)] = true := by decide +kernel
theorem dc_X5_passedNow_16 : decode (AM.bytes M_X5_passedNow) 16 = .ok (.if_icmp .ge 14, 3) := by decide +kernel
theorem g_X5_passedNow_19_1 : ab_oks M_X5_passedNow [(19, .aload_n 0, 1, 0, 0, 0, .null)] = true := by decide +kernel
theorem lk_5_107 : ab_lkV "LeafCradlesModel" 107 M_X5_minute 0 [1087, 1089, 48, 97, 1090] = true := by decide +kernel
theorem dc_X5_passedNow_20 : decode (AM.bytes M_X5_passedNow) 20 = .ok (.invokevirtual 107, 3) := by decide +kernel
theorem g_X5_passedNow_23_3 : ab_oks M_X5_passedNow [(23, .pop, 1, 0, 0, 0, .null), (24, .iinc 4 1, 3, 4, 0, 0, .int (nI (1))), (27, .goto (-14), 3, 13, 0, 0, .null)] = true := by decide +kernel
theorem g_X5_passedNow_30_2 : ab_oks M_X5_passedNow [(30, .aload_n 0, 1, 0, 0, 0, .null), (31, .iload_n 2, 1, 2, 0, 0, .null)] = true := by decide +kernel
theorem dc_X5_passedNow_32 : decode (AM.bytes M_X5_passedNow) 32 = .ok (.invokevirtual 182, 3) := by decide +kernel
theorem g_X5_passedNow_35_2 : ab_oks M_X5_passedNow [(35, .istore 4, 2, 4, 0, 0, .null), (37, .aload_n 0, 1, 0, 0, 0, .null)] = true := by decide +kernel
theorem lk_5_188 : ab_lkV "LeafCradlesModel" 188 M_X5_bring0 0 [1255, 1257, 74, 97, 1258] = true := by decide +kernel
theorem dc_X5_passedNow_38 : decode (AM.bytes M_X5_passedNow) 38 = .ok (.invokevirtual 188, 3) := by decide +kernel
theorem g_X5_passedNow_41_3 : ab_oks M_X5_passedNow [(41, .iload 4, 2, 4, 0, 0, .null), (43, .iload_n 3, 1, 3, 0, 0, .null), (44, .isub, 1, 0, 0, 0, .null)] = true := by decide +kernel
theorem dc_X5_passedNow_45 : decode (AM.bytes M_X5_passedNow) 45 = .ok (.ireturn, 1) := by decide +kernel
set_option maxRecDepth 100000 in
set_option maxHeartbeats 4000000 in
theorem s_5passedNow {E : AE} (d : Nat) (m : Nat) (c : Int32) {nv : Nat} {nc : Nat} {nr : Nat} {ne : Nat}  {o0 a0 t0 p0 u0 l0 : List AC} {z sa ro te fr to un ga pi be : Nat → Int32} {bm en sta sv ln th : Int32} {hh : Int64} (hZ : ZI z nv nc nr ne) (hm : m ≤ 500) : CT E M_X5_passedNow (d + 4) [.ref 16384, .int (nI (m)), .int (c)] (hp o0 a0 t0 p0 (mo z sa ro te fr to un ga pi be bm en sta sv ln th hh) u0 l0) (.inl (some (.int (F_5passedNow m c nv nc nr z)))) (hp o0 a0 t0 p0 (mo (F_5passedNow_z m nv nc nr z sa) (F_5passedNow_sa z sa) ro te fr to un ga pi be bm en sta sv ln th hh) u0 l0) 0 0 := by
  obtain ⟨⟨hnv, h12⟩, ⟨hnc, h4⟩, ⟨hnr, h3⟩, ⟨hne, h60⟩, hLV⟩ := id hZ
  refine CT.of (L := [some (.ref 16384), some (.int (nI (m))), some (.int (c)), none, none]) rfl rfl ?_
  refine AR.run g_X5_passedNow_0_2 2 [some (.ref 16384), some (.int (nI (m))), some (.int (c)), none, none] [.int (c), .ref 16384] _ [] rfl trivial ?_
  refine AR.callV1 (16384) [.int (c)] [] lk_5_182 dc_X5_passedNow_2 rfl rfl (s_5doneBy _ c (by assumption)) (by first | rfl | (simp only [nI_add, pk_mul]; first | done | rfl)) rfl ?_
  refine AR.run g_X5_passedNow_5_2 7 [some (.ref 16384), some (.int (nI (m))), some (.int (c)), some (.int (L_5doneBy_4 c z nc)), none] [.ref 16384] _ [] rfl trivial ?_
  refine AR.callV0 (16384) [] [] lk_5_185 dc_X5_passedNow_7 rfl rfl (s_keep _  ) (by first | rfl | (simp only [nI_add, pk_mul]; first | done | rfl)) rfl ?_
  refine AR.run g_X5_passedNow_10_2 13 [some (.ref 16384), some (.int (nI (m))), some (.int (c)), some (.int (L_5doneBy_4 c z nc)), some (.int (nI (0)))] [] _ [] rfl trivial ?_
  refine AR.cast (L' := [some (.ref 16384), some (.int (nI (m))), some (.int (c)), some (.int (L_5doneBy_4 c z nc)), some (.int (nI (0)))]) (by first | rfl | (rw [L_5passedNow_13])) rfl (by first | rfl | (rw [L_5passedNow_13])) (AR.loopN m (fun j13 => [some (.ref 16384), some (.int (nI (m))), some (.int (c)), some (.int (L_5doneBy_4 c z nc)), some (.int (nI (j13)))]) (fun j13 => (hp o0 a0 t0 p0 (mo (L_5passedNow_13 nv nc nr z j13) (cpK z sa 1863) ro te fr to un ga pi be bm en sta sv ln th hh) u0 l0)) (fun j13 => True) (fun j13 hj13 hI13 ih13 => ?_) (fun hI13 => ?_) 0 (by omega) (by first | trivial | omega))
  · have hA_0 : ZI (L_5passedNow_13 nv nc nr z j13) nv nc nr ne := by rw [pN_mn]; exact ZI_mnN hZ j13
    refine AR.run g_X5_passedNow_13_2 16 [some (.ref 16384), some (.int (nI (m))), some (.int (c)), some (.int (L_5doneBy_4 c z nc)), some (.int (nI (j13)))] [.int (nI (m)), .int (nI (j13))] _ [] rfl trivial ?_
    refine AR.ge2N (tgt := 30) (a := j13) (b := m) dc_X5_passedNow_16 (by decide) (by first | rfl | (simp only [nI_add, pk_mul]; first | done | rfl)) (by first | rfl | (simp only [nI_add, pk_mul]; first | done | rfl)) (by omega) (by omega) (fun c16_1 => absurd c16_1 (by omega)) (fun c16_1 => ?_)
    refine AR.run g_X5_passedNow_19_1 20 [some (.ref 16384), some (.int (nI (m))), some (.int (c)), some (.int (L_5doneBy_4 c z nc)), some (.int (nI (j13)))] [.ref 16384] _ [] rfl trivial ?_
    refine AR.callV1 (16384) [] [] lk_5_107 dc_X5_passedNow_20 rfl rfl (s_5minute _  (by assumption)) (by first | rfl | (simp only [nI_add, pk_mul]; first | done | rfl)) rfl ?_
    refine AR.run g_X5_passedNow_23_3 13 [some (.ref 16384), some (.int (nI (m))), some (.int (c)), some (.int (L_5doneBy_4 c z nc)), some (.int ((nI (j13)) + (nI (1))))] [] _ [] rfl trivial ?_
    have e2 : L_5passedNow_13 nv nc nr z (j13 + 1) = (F_5minute_z nv nc nr (L_5passedNow_13 nv nc nr z j13)) := by rw [L_5passedNow_13, B_5passedNow_13]
    exact AR.cast (L' := [some (.ref 16384), some (.int (nI (m))), some (.int (c)), some (.int (L_5doneBy_4 c z nc)), some (.int (nI (j13 + 1)))]) (by first | rfl | (rw [nI_add]; done) | (rw [nI_add]; rfl)) rfl (by rw [e2]) (ih13 (by first | trivial | omega))
  · have hA_2 : ZI (L_5passedNow_13 nv nc nr z m) nv nc nr ne := by rw [pN_mn]; exact ZI_mnN hZ m
    refine AR.run g_X5_passedNow_13_2 16 [some (.ref 16384), some (.int (nI (m))), some (.int (c)), some (.int (L_5doneBy_4 c z nc)), some (.int (nI (m)))] [.int (nI (m)), .int (nI (m))] _ [] rfl trivial ?_
    refine AR.ge2N (tgt := 30) (a := m) (b := m) dc_X5_passedNow_16 (by decide) (by first | rfl | (simp only [nI_add, pk_mul]; first | done | rfl)) (by first | rfl | (simp only [nI_add, pk_mul]; first | done | rfl)) (by omega) (by omega) (fun c16_3 => ?_) (fun c16_3 => absurd c16_3 (by omega))
    refine AR.run g_X5_passedNow_30_2 32 [some (.ref 16384), some (.int (nI (m))), some (.int (c)), some (.int (L_5doneBy_4 c z nc)), some (.int (nI (m)))] [.int (c), .ref 16384] _ [] rfl trivial ?_
    refine AR.callV1 (16384) [.int (c)] [] lk_5_182 dc_X5_passedNow_32 rfl rfl (s_5doneBy _ c (by assumption)) (by first | rfl | (simp only [nI_add, pk_mul]; first | done | rfl)) rfl ?_
    refine AR.run g_X5_passedNow_35_2 38 [some (.ref 16384), some (.int (nI (m))), some (.int (c)), some (.int (L_5doneBy_4 c z nc)), some (.int (L_5doneBy_4 c (L_5passedNow_13 nv nc nr z m) nc))] [.ref 16384] _ [] rfl trivial ?_
    refine AR.callV0 (16384) [] [] lk_5_188 dc_X5_passedNow_38 rfl rfl (s_bring0 _  ) (by first | rfl | (simp only [nI_add, pk_mul]; first | done | rfl)) rfl ?_
    refine AR.run g_X5_passedNow_41_3 45 [some (.ref 16384), some (.int (nI (m))), some (.int (c)), some (.int (L_5doneBy_4 c z nc)), some (.int (L_5doneBy_4 c (L_5passedNow_13 nv nc nr z m) nc))] [.int ((L_5doneBy_4 c (L_5passedNow_13 nv nc nr z m) nc) - (L_5doneBy_4 c z nc))] _ [] rfl trivial ?_
    have e4_0 : F_5passedNow m c nv nc nr z = ((L_5doneBy_4 c (L_5passedNow_13 nv nc nr z m) nc) - (L_5doneBy_4 c z nc)) := by rw [F_5passedNow]
    have e4_1 : F_5passedNow_z m nv nc nr z sa = (cpK (cpK z sa 1863) (L_5passedNow_13 nv nc nr z m) 1863) := by rw [F_5passedNow_z]
    have e4_2 : F_5passedNow_sa z sa = (cpK z sa 1863) := by rw [F_5passedNow_sa]
    exact AR.retI dc_X5_passedNow_45 rfl e4_0.symm (by rw [e4_1, e4_2])
def W_5doneNow_6 (nv : Nat) (nc : Nat) (nr : Nat) (z : Nat → Int32) (sa : Nat → Int32) : Nat → Nat → (Nat → Int32) → (Int32) × (Nat → Int32)
  | 0, j6, y6_z => if j6 ≤ 2000 then (nI (j6), cpK (cpK z sa 1863) y6_z 1863) else (-1, cpK (cpK z sa 1863) y6_z 1863)
  | f6 + 1, j6, y6_z => if (L_5isAny_4 nv y6_z nc) = 0 then if j6 ≤ 2000 then (nI (j6), cpK (cpK z sa 1863) y6_z 1863) else (-1, cpK (cpK z sa 1863) y6_z 1863) else W_5doneNow_6 nv nc nr z sa f6 (j6 + 1) (F_5minute_z nv nc nr y6_z)
def F_5doneNow (nv : Nat) (nc : Nat) (nr : Nat) (z : Nat → Int32) (sa : Nat → Int32) : Int32 := ((W_5doneNow_6 nv nc nr z sa 2001 0 z).1)
def F_5doneNow_z (nv : Nat) (nc : Nat) (nr : Nat) (z : Nat → Int32) (sa : Nat → Int32) : Nat → Int32 := ((W_5doneNow_6 nv nc nr z sa 2001 0 z).2)
def F_5doneNow_sa (z : Nat → Int32) (sa : Nat → Int32) : Nat → Int32 := (cpK z sa 1863)
theorem g_X5_doneNow_0_1 : ab_oks M_X5_doneNow [(0, .aload_n 0, 1, 0, 0, 0, .null)] = true := by decide +kernel
theorem dc_X5_doneNow_1 : decode (AM.bytes M_X5_doneNow) 1 = .ok (.invokevirtual 185, 3) := by decide +kernel
theorem g_X5_doneNow_4_2 : ab_oks M_X5_doneNow [(4, .iconst 0, 1, 0, 0, 0, .int (nI (0))), (5, .istore_n 1, 1, 1, 0, 0, .null)] = true := by decide +kernel
theorem g_X5_doneNow_6_2 : ab_oks M_X5_doneNow [(6, .iload_n 1, 1, 1, 0, 0, .null), (7, .sipush 2000, 3, 0, 0, 0, .int (nI (2000)))] = true := by decide +kernel
theorem dc_X5_doneNow_10 : decode (AM.bytes M_X5_doneNow) 10 = .ok (.if_icmp .gt 21, 3) := by decide +kernel
theorem g_X5_doneNow_31_1 : ab_oks M_X5_doneNow [(31, .aload_n 0, 1, 0, 0, 0, .null)] = true := by decide +kernel
theorem dc_X5_doneNow_32 : decode (AM.bytes M_X5_doneNow) 32 = .ok (.invokevirtual 188, 3) := by decide +kernel
theorem g_X5_doneNow_35_2 : ab_oks M_X5_doneNow [(35, .iload_n 1, 1, 1, 0, 0, .null), (36, .sipush 2000, 3, 0, 0, 0, .int (nI (2000)))] = true := by decide +kernel
theorem dc_X5_doneNow_39 : decode (AM.bytes M_X5_doneNow) 39 = .ok (.if_icmp .le 7, 3) := by decide +kernel
theorem g_X5_doneNow_46_1 : ab_oks M_X5_doneNow [(46, .iload_n 1, 1, 1, 0, 0, .null)] = true := by decide +kernel
theorem dc_X5_doneNow_47 : decode (AM.bytes M_X5_doneNow) 47 = .ok (.ireturn, 1) := by decide +kernel
theorem g_X5_doneNow_42_2 : ab_oks M_X5_doneNow [(42, .iconst (-1), 1, 0, 0, 0, .int (-1)), (43, .goto 4, 3, 47, 0, 0, .null)] = true := by decide +kernel
theorem g_X5_doneNow_13_1 : ab_oks M_X5_doneNow [(13, .aload_n 0, 1, 0, 0, 0, .null)] = true := by decide +kernel
theorem lk_5_194 : ab_lkV "LeafCradlesModel" 194 M_X5_isAny 0 [1267, 1269, 76, 97, 1270] = true := by decide +kernel
theorem dc_X5_doneNow_14 : decode (AM.bytes M_X5_doneNow) 14 = .ok (.invokevirtual 194, 3) := by decide +kernel
theorem dc_X5_doneNow_17 : decode (AM.bytes M_X5_doneNow) 17 = .ok (.ifCond .eq 14, 3) := by decide +kernel
theorem g_X5_doneNow_20_1 : ab_oks M_X5_doneNow [(20, .aload_n 0, 1, 0, 0, 0, .null)] = true := by decide +kernel
theorem dc_X5_doneNow_21 : decode (AM.bytes M_X5_doneNow) 21 = .ok (.invokevirtual 107, 3) := by decide +kernel
theorem g_X5_doneNow_24_3 : ab_oks M_X5_doneNow [(24, .pop, 1, 0, 0, 0, .null), (25, .iinc 1 1, 3, 1, 0, 0, .int (nI (1))), (28, .goto (-22), 3, 6, 0, 0, .null)] = true := by decide +kernel
set_option maxRecDepth 100000 in
set_option maxHeartbeats 4000000 in
theorem s_5doneNow {E : AE} (d : Nat) {nv : Nat} {nc : Nat} {nr : Nat} {ne : Nat}  {o0 a0 t0 p0 u0 l0 : List AC} {z sa ro te fr to un ga pi be : Nat → Int32} {bm en sta sv ln th : Int32} {hh : Int64} (hZ : ZI z nv nc nr ne) : CT E M_X5_doneNow (d + 4) [.ref 16384] (hp o0 a0 t0 p0 (mo z sa ro te fr to un ga pi be bm en sta sv ln th hh) u0 l0) (.inl (some (.int (F_5doneNow nv nc nr z sa)))) (hp o0 a0 t0 p0 (mo (F_5doneNow_z nv nc nr z sa) (F_5doneNow_sa z sa) ro te fr to un ga pi be bm en sta sv ln th hh) u0 l0) 0 0 := by
  obtain ⟨⟨hnv, h12⟩, ⟨hnc, h4⟩, ⟨hnr, h3⟩, ⟨hne, h60⟩, hLV⟩ := id hZ
  refine CT.of (L := [some (.ref 16384), none]) rfl rfl ?_
  refine AR.run g_X5_doneNow_0_1 1 [some (.ref 16384), none] [.ref 16384] _ [] rfl trivial ?_
  refine AR.callV0 (16384) [] [] lk_5_185 dc_X5_doneNow_1 rfl rfl (s_keep _  ) (by first | rfl | (simp only [nI_add, pk_mul]; first | done | rfl)) rfl ?_
  refine AR.run g_X5_doneNow_4_2 6 [some (.ref 16384), some (.int (nI (0)))] [] _ [] rfl trivial ?_
  have hW : ∀ (f6 j6 : Nat) (y6_z : Nat → Int32), j6 + f6 = 2001 → ZI y6_z nv nc nr ne → AR E M_X5_doneNow (d + 4) 6 [some (.ref 16384), some (.int (nI (j6)))] [] (hp o0 a0 t0 p0 (mo y6_z (cpK z sa 1863) ro te fr to un ga pi be bm en sta sv ln th hh) u0 l0) (.inl (some (.int ((W_5doneNow_6 nv nc nr z sa f6 j6 y6_z).1)))) (hp o0 a0 t0 p0 (mo ((W_5doneNow_6 nv nc nr z sa f6 j6 y6_z).2) (cpK z sa 1863) ro te fr to un ga pi be bm en sta sv ln th hh) u0 l0) 0 0 := by
    intro f6
    induction f6 with
    | zero => 
      intro j6 y6_z hj6 hI6
      refine AR.run g_X5_doneNow_6_2 10 [some (.ref 16384), some (.int (nI (j6)))] [.int (nI (2000)), .int (nI (j6))] _ [] rfl trivial ?_
      refine AR.gt2N (tgt := 31) (a := j6) (b := 2000) dc_X5_doneNow_10 (by decide) (by first | rfl | (simp only [nI_add, pk_mul]; first | done | rfl)) (by first | rfl | (simp only [nI_add, pk_mul]; first | done | rfl)) (by omega) (by omega) (fun c10_1 => ?_) (fun c10_1 => absurd c10_1 (by omega))
      refine AR.run g_X5_doneNow_31_1 32 [some (.ref 16384), some (.int (nI (j6)))] [.ref 16384] _ [] rfl trivial ?_
      refine AR.callV0 (16384) [] [] lk_5_188 dc_X5_doneNow_32 rfl rfl (s_bring0 _  ) (by first | rfl | (simp only [nI_add, pk_mul]; first | done | rfl)) rfl ?_
      refine AR.run g_X5_doneNow_35_2 39 [some (.ref 16384), some (.int (nI (j6)))] [.int (nI (2000)), .int (nI (j6))] _ [] rfl trivial ?_
      refine AR.le2N (tgt := 46) (a := j6) (b := 2000) dc_X5_doneNow_39 (by decide) (by first | rfl | (simp only [nI_add, pk_mul]; first | done | rfl)) (by first | rfl | (simp only [nI_add, pk_mul]; first | done | rfl)) (by omega) (by omega) (fun c39_2 => ?_) (fun c39_2 => ?_)
      · refine AR.run g_X5_doneNow_46_1 47 [some (.ref 16384), some (.int (nI (j6)))] [.int (nI (j6))] _ [] rfl trivial ?_
        have e3 : W_5doneNow_6 nv nc nr z sa 0 j6 y6_z = (nI (j6), cpK (cpK z sa 1863) y6_z 1863) := by rw [W_5doneNow_6, if_pos (show j6 ≤ 2000 from by omega)]
        rw [e3]
        exact AR.retI dc_X5_doneNow_47 rfl rfl rfl
      · refine AR.run g_X5_doneNow_42_2 47 [some (.ref 16384), some (.int (nI (j6)))] [.int (-1)] _ [] rfl trivial ?_
        have e4 : W_5doneNow_6 nv nc nr z sa 0 j6 y6_z = (-1, cpK (cpK z sa 1863) y6_z 1863) := by rw [W_5doneNow_6, if_neg (show ¬ (j6 ≤ 2000) from by omega)]
        rw [e4]
        exact AR.retI dc_X5_doneNow_47 rfl rfl rfl
    | succ f6 ih6 => 
      intro j6 y6_z hj6 hI6
      refine AR.run g_X5_doneNow_6_2 10 [some (.ref 16384), some (.int (nI (j6)))] [.int (nI (2000)), .int (nI (j6))] _ [] rfl trivial ?_
      refine AR.gt2N (tgt := 31) (a := j6) (b := 2000) dc_X5_doneNow_10 (by decide) (by first | rfl | (simp only [nI_add, pk_mul]; first | done | rfl)) (by first | rfl | (simp only [nI_add, pk_mul]; first | done | rfl)) (by omega) (by omega) (fun c10_5 => absurd c10_5 (by omega)) (fun c10_5 => ?_)
      refine AR.run g_X5_doneNow_13_1 14 [some (.ref 16384), some (.int (nI (j6)))] [.ref 16384] _ [] rfl trivial ?_
      refine AR.callV1 (16384) [] [] lk_5_194 dc_X5_doneNow_14 rfl rfl (s_5isAny _  (by assumption)) (by first | rfl | (simp only [nI_add, pk_mul]; first | done | rfl)) rfl ?_
      refine AR.eq (tgt := 31) dc_X5_doneNow_17 (by decide) (fun c17_6 => ?_) (fun c17_6 => ?_)
      · refine AR.run g_X5_doneNow_31_1 32 [some (.ref 16384), some (.int (nI (j6)))] [.ref 16384] _ [] rfl trivial ?_
        refine AR.callV0 (16384) [] [] lk_5_188 dc_X5_doneNow_32 rfl rfl (s_bring0 _  ) (by first | rfl | (simp only [nI_add, pk_mul]; first | done | rfl)) rfl ?_
        refine AR.run g_X5_doneNow_35_2 39 [some (.ref 16384), some (.int (nI (j6)))] [.int (nI (2000)), .int (nI (j6))] _ [] rfl trivial ?_
        refine AR.le2N (tgt := 46) (a := j6) (b := 2000) dc_X5_doneNow_39 (by decide) (by first | rfl | (simp only [nI_add, pk_mul]; first | done | rfl)) (by first | rfl | (simp only [nI_add, pk_mul]; first | done | rfl)) (by omega) (by omega) (fun c39_7 => ?_) (fun c39_7 => ?_)
        · refine AR.run g_X5_doneNow_46_1 47 [some (.ref 16384), some (.int (nI (j6)))] [.int (nI (j6))] _ [] rfl trivial ?_
          have e8 : W_5doneNow_6 nv nc nr z sa (f6 + 1) j6 y6_z = (nI (j6), cpK (cpK z sa 1863) y6_z 1863) := by rw [W_5doneNow_6, if_pos c17_6, if_pos (show j6 ≤ 2000 from by omega)]
          rw [e8]
          exact AR.retI dc_X5_doneNow_47 rfl rfl rfl
        · refine AR.run g_X5_doneNow_42_2 47 [some (.ref 16384), some (.int (nI (j6)))] [.int (-1)] _ [] rfl trivial ?_
          have e9 : W_5doneNow_6 nv nc nr z sa (f6 + 1) j6 y6_z = (-1, cpK (cpK z sa 1863) y6_z 1863) := by rw [W_5doneNow_6, if_pos c17_6, if_neg (show ¬ (j6 ≤ 2000) from by omega)]
          rw [e9]
          exact AR.retI dc_X5_doneNow_47 rfl rfl rfl
      · refine AR.run g_X5_doneNow_20_1 21 [some (.ref 16384), some (.int (nI (j6)))] [.ref 16384] _ [] rfl trivial ?_
        refine AR.callV1 (16384) [] [] lk_5_107 dc_X5_doneNow_21 rfl rfl (s_5minute _  (by assumption)) (by first | rfl | (simp only [nI_add, pk_mul]; first | done | rfl)) rfl ?_
        refine AR.run g_X5_doneNow_24_3 6 [some (.ref 16384), some (.int ((nI (j6)) + (nI (1))))] [] _ [] rfl trivial ?_
        have e10 : W_5doneNow_6 nv nc nr z sa (f6 + 1) j6 y6_z = W_5doneNow_6 nv nc nr z sa f6 (j6 + 1) (F_5minute_z nv nc nr y6_z) := by rw [W_5doneNow_6, if_neg c17_6]
        rw [e10]
        exact AR.cast (L' := [some (.ref 16384), some (.int (nI (j6 + 1)))]) (by first | rfl | rw [nI_add]) rfl rfl (ih6 (j6 + 1) (F_5minute_z nv nc nr y6_z) (by omega) (ZI_minute hI6))
  have e12_0 : F_5doneNow nv nc nr z sa = ((W_5doneNow_6 nv nc nr z sa 2001 0 z).1) := by rw [F_5doneNow]
  have e12_1 : F_5doneNow_z nv nc nr z sa = ((W_5doneNow_6 nv nc nr z sa 2001 0 z).2) := by rw [F_5doneNow_z]
  have e12_2 : F_5doneNow_sa z sa = (cpK z sa 1863) := by rw [F_5doneNow_sa]
  exact AR.end' (by first | rfl | (rw [e12_0])) (by first | rfl | (rw [e12_1, e12_2])) (AR.cast rfl rfl rfl (hW 2001 0 z (by omega) hZ))
def F_5mayHave (c : Nat) (v : Nat) (nv : Nat) (z : Nat → Int32) : Int32 := if (z (11 + 7 * v + 5)) = 0 then if (z (11 + 7 * v + 6)) = 0 then if (z (95 + 4 * c + 0)) < (z (11 + 7 * v + 1)) then (nI (0)) else if (z (95 + 4 * c + 1)) < (z (11 + 7 * v + 3)) then (nI (0)) else if (oI (vo z (nI (c)) nv)) = (-1) then (nI (1)) else (nI (0)) else if (z (95 + 4 * c + 0)) < (z (11 + 7 * v + 1)) then (nI (0)) else if (z (95 + 4 * c + 1)) < (z (11 + 7 * v + 3)) then (nI (0)) else (nI (0)) else if (z (95 + 4 * c + 0)) < (z (11 + 7 * v + 1)) then (nI (0)) else if (z (95 + 4 * c + 1)) < (z (11 + 7 * v + 3)) then (nI (0)) else (nI (0))
theorem F_5mayHave_01 (c : Nat) (v : Nat) (nv : Nat) (z : Nat → Int32) : F_5mayHave c v nv z = nI 0 ∨ F_5mayHave c v nv z = nI 1 := by
  unfold F_5mayHave
  (repeat' split) <;> first | exact Or.inl rfl | exact Or.inr rfl | exact wi01 _ _ _
theorem g_X5_mayHave_0_3 : ab_oks M_X5_mayHave [(0, .aload_n 0, 1, 0, 0, 0, .null), (1, .iload_n 2, 1, 2, 0, 0, .null), (2, .iconst 5, 1, 0, 0, 0, .int (nI (5)))] = true := by decide +kernel
theorem dc_X5_mayHave_3 : decode (AM.bytes M_X5_mayHave) 3 = .ok (.invokevirtual 62, 3) := by decide +kernel
theorem dc_X5_mayHave_6 : decode (AM.bytes M_X5_mayHave) 6 = .ok (.ifCond .ne 17, 3) := by decide +kernel
theorem g_X5_mayHave_23_5 : ab_oks M_X5_mayHave [(23, .iconst 0, 1, 0, 0, 0, .int (nI (0))), (24, .istore_n 3, 1, 3, 0, 0, .null), (25, .aload_n 0, 1, 0, 0, 0, .null), (26, .iload_n 2, 1, 2, 0, 0, .null), (27, .iconst 1, 1, 0, 0, 0, .int (nI (1)))] = true := by decide +kernel
theorem dc_X5_mayHave_28 : decode (AM.bytes M_X5_mayHave) 28 = .ok (.invokevirtual 62, 3) := by decide +kernel
theorem g_X5_mayHave_31_3 : ab_oks M_X5_mayHave [(31, .aload_n 0, 1, 0, 0, 0, .null), (32, .iload_n 1, 1, 1, 0, 0, .null), (33, .iconst 0, 1, 0, 0, 0, .int (nI (0)))] = true := by decide +kernel
theorem dc_X5_mayHave_34 : decode (AM.bytes M_X5_mayHave) 34 = .ok (.invokevirtual 72, 3) := by decide +kernel
theorem dc_X5_mayHave_37 : decode (AM.bytes M_X5_mayHave) 37 = .ok (.if_icmp .gt 22, 3) := by decide +kernel
theorem g_X5_mayHave_59_3 : ab_oks M_X5_mayHave [(59, .iconst 0, 1, 0, 0, 0, .int (nI (0))), (60, .istore 4, 2, 4, 0, 0, .null), (62, .iload_n 3, 1, 3, 0, 0, .null)] = true := by decide +kernel
theorem dc_X5_mayHave_63 : decode (AM.bytes M_X5_mayHave) 63 = .ok (.ifCond .eq 21, 3) := by decide +kernel
theorem g_X5_mayHave_84_1 : ab_oks M_X5_mayHave [(84, .iconst 0, 1, 0, 0, 0, .int (nI (0)))] = true := by decide +kernel
theorem dc_X5_mayHave_85 : decode (AM.bytes M_X5_mayHave) 85 = .ok (.ireturn, 1) := by decide +kernel
theorem g_X5_mayHave_40_3 : ab_oks M_X5_mayHave [(40, .aload_n 0, 1, 0, 0, 0, .null), (41, .iload_n 2, 1, 2, 0, 0, .null), (42, .iconst 3, 1, 0, 0, 0, .int (nI (3)))] = true := by decide +kernel
theorem dc_X5_mayHave_43 : decode (AM.bytes M_X5_mayHave) 43 = .ok (.invokevirtual 62, 3) := by decide +kernel
theorem g_X5_mayHave_46_3 : ab_oks M_X5_mayHave [(46, .aload_n 0, 1, 0, 0, 0, .null), (47, .iload_n 1, 1, 1, 0, 0, .null), (48, .iconst 1, 1, 0, 0, 0, .int (nI (1)))] = true := by decide +kernel
theorem dc_X5_mayHave_49 : decode (AM.bytes M_X5_mayHave) 49 = .ok (.invokevirtual 72, 3) := by decide +kernel
theorem dc_X5_mayHave_52 : decode (AM.bytes M_X5_mayHave) 52 = .ok (.if_icmp .gt 7, 3) := by decide +kernel
theorem g_X5_mayHave_55_4 : ab_oks M_X5_mayHave [(55, .iconst 1, 1, 0, 0, 0, .int (nI (1))), (56, .goto 4, 3, 60, 0, 0, .null), (60, .istore 4, 2, 4, 0, 0, .null), (62, .iload_n 3, 1, 3, 0, 0, .null)] = true := by decide +kernel
theorem g_X5_mayHave_9_3 : ab_oks M_X5_mayHave [(9, .aload_n 0, 1, 0, 0, 0, .null), (10, .iload_n 2, 1, 2, 0, 0, .null), (11, .bipush 6, 2, 0, 0, 0, .int (nI (6)))] = true := by decide +kernel
theorem dc_X5_mayHave_13 : decode (AM.bytes M_X5_mayHave) 13 = .ok (.invokevirtual 62, 3) := by decide +kernel
theorem dc_X5_mayHave_16 : decode (AM.bytes M_X5_mayHave) 16 = .ok (.ifCond .ne 7, 3) := by decide +kernel
theorem g_X5_mayHave_19_6 : ab_oks M_X5_mayHave [(19, .iconst 1, 1, 0, 0, 0, .int (nI (1))), (20, .goto 4, 3, 24, 0, 0, .null), (24, .istore_n 3, 1, 3, 0, 0, .null), (25, .aload_n 0, 1, 0, 0, 0, .null), (26, .iload_n 2, 1, 2, 0, 0, .null), (27, .iconst 1, 1, 0, 0, 0, .int (nI (1)))] = true := by decide +kernel
theorem g_X5_mayHave_66_1 : ab_oks M_X5_mayHave [(66, .iload 4, 2, 4, 0, 0, .null)] = true := by decide +kernel
theorem dc_X5_mayHave_68 : decode (AM.bytes M_X5_mayHave) 68 = .ok (.ifCond .eq 16, 3) := by decide +kernel
theorem g_X5_mayHave_71_2 : ab_oks M_X5_mayHave [(71, .aload_n 0, 1, 0, 0, 0, .null), (72, .iload_n 1, 1, 1, 0, 0, .null)] = true := by decide +kernel
theorem dc_X5_mayHave_73 : decode (AM.bytes M_X5_mayHave) 73 = .ok (.invokevirtual 69, 3) := by decide +kernel
theorem g_X5_mayHave_76_1 : ab_oks M_X5_mayHave [(76, .iconst (-1), 1, 0, 0, 0, .int (-1))] = true := by decide +kernel
theorem dc_X5_mayHave_77 : decode (AM.bytes M_X5_mayHave) 77 = .ok (.if_icmp .ne 7, 3) := by decide +kernel
theorem g_X5_mayHave_80_2 : ab_oks M_X5_mayHave [(80, .iconst 1, 1, 0, 0, 0, .int (nI (1))), (81, .goto 4, 3, 85, 0, 0, .null)] = true := by decide +kernel
set_option maxRecDepth 100000 in
set_option maxHeartbeats 4000000 in
theorem s_5mayHave {E : AE} (d : Nat) (c : Nat) (v : Nat) {nv : Nat} {nc : Nat} {nr : Nat} {ne : Nat}  {o0 a0 t0 p0 u0 l0 : List AC} {z sa ro te fr to un ga pi be : Nat → Int32} {bm en sta sv ln th : Int32} {hh : Int64} (hZ : ZI z nv nc nr ne) (hc : c < 4) (hv : v < nv) : CT E M_X5_mayHave (d + 2) [.ref 16384, .int (nI (c)), .int (nI (v))] (hp o0 a0 t0 p0 (mo z sa ro te fr to un ga pi be bm en sta sv ln th hh) u0 l0) (.inl (some (.int (F_5mayHave c v nv z)))) (hp o0 a0 t0 p0 (mo z sa ro te fr to un ga pi be bm en sta sv ln th hh) u0 l0) 0 0 := by
  obtain ⟨⟨hnv, h12⟩, ⟨hnc, h4⟩, ⟨hnr, h3⟩, ⟨hne, h60⟩, hLV⟩ := id hZ
  refine CT.of (L := [some (.ref 16384), some (.int (nI (c))), some (.int (nI (v))), none, none]) rfl rfl ?_
  refine AR.run g_X5_mayHave_0_3 3 [some (.ref 16384), some (.int (nI (c))), some (.int (nI (v))), none, none] [.int (nI (5)), .int (nI (v)), .ref 16384] _ [] rfl trivial ?_
  refine AR.callV1 (16384) [.int (nI (v)), .int (nI (5))] [] lk_5_62 dc_X5_mayHave_3 rfl rfl (s_ofVolume _ v 5 (by omega) (by omega)) (by first | rfl | (simp only [nI_add, pk_mul]; first | done | rfl)) rfl ?_
  refine AR.ne (tgt := 23) dc_X5_mayHave_6 (by decide) (fun c6_1 => ?_) (fun c6_1 => ?_)
  · refine AR.run g_X5_mayHave_23_5 28 [some (.ref 16384), some (.int (nI (c))), some (.int (nI (v))), some (.int (nI (0))), none] [.int (nI (1)), .int (nI (v)), .ref 16384] _ [] rfl trivial ?_
    refine AR.callV1 (16384) [.int (nI (v)), .int (nI (1))] [] lk_5_62 dc_X5_mayHave_28 rfl rfl (s_ofVolume _ v 1 (by omega) (by omega)) (by first | rfl | (simp only [nI_add, pk_mul]; first | done | rfl)) rfl ?_
    refine AR.run g_X5_mayHave_31_3 34 [some (.ref 16384), some (.int (nI (c))), some (.int (nI (v))), some (.int (nI (0))), none] [.int (nI (0)), .int (nI (c)), .ref 16384, .int (z (11 + 7 * v + 1))] _ [] rfl trivial ?_
    refine AR.callV1 (16384) [.int (nI (c)), .int (nI (0))] [.int (z (11 + 7 * v + 1))] lk_5_72 dc_X5_mayHave_34 rfl rfl (s_ofCradle _ c 0 (by omega) (by omega)) (by first | rfl | (simp only [nI_add, pk_mul]; first | done | rfl)) rfl ?_
    refine AR.gt2 (tgt := 59) dc_X5_mayHave_37 (by decide) (fun c37_2 => ?_) (fun c37_2 => ?_)
    · refine AR.run g_X5_mayHave_59_3 63 [some (.ref 16384), some (.int (nI (c))), some (.int (nI (v))), some (.int (nI (0))), some (.int (nI (0)))] [.int (nI (0))] _ [] rfl trivial ?_
      refine AR.eqN (tgt := 84) (a := 0) dc_X5_mayHave_63 (by decide) (by first | rfl | (simp only [nI_add, pk_mul]; first | done | rfl)) (by omega) (fun c63_3 => ?_) (fun c63_3 => absurd c63_3 (by omega))
      refine AR.run g_X5_mayHave_84_1 85 [some (.ref 16384), some (.int (nI (c))), some (.int (nI (v))), some (.int (nI (0))), some (.int (nI (0)))] [.int (nI (0))] _ [] rfl trivial ?_
      have e4_0 : F_5mayHave c v nv z = (nI (0)) := by rw [F_5mayHave, if_neg c6_1, if_pos c37_2]
      exact AR.retZ dc_X5_mayHave_85 rfl (Or.inl rfl) e4_0.symm rfl
    · refine AR.run g_X5_mayHave_40_3 43 [some (.ref 16384), some (.int (nI (c))), some (.int (nI (v))), some (.int (nI (0))), none] [.int (nI (3)), .int (nI (v)), .ref 16384] _ [] rfl trivial ?_
      refine AR.callV1 (16384) [.int (nI (v)), .int (nI (3))] [] lk_5_62 dc_X5_mayHave_43 rfl rfl (s_ofVolume _ v 3 (by omega) (by omega)) (by first | rfl | (simp only [nI_add, pk_mul]; first | done | rfl)) rfl ?_
      refine AR.run g_X5_mayHave_46_3 49 [some (.ref 16384), some (.int (nI (c))), some (.int (nI (v))), some (.int (nI (0))), none] [.int (nI (1)), .int (nI (c)), .ref 16384, .int (z (11 + 7 * v + 3))] _ [] rfl trivial ?_
      refine AR.callV1 (16384) [.int (nI (c)), .int (nI (1))] [.int (z (11 + 7 * v + 3))] lk_5_72 dc_X5_mayHave_49 rfl rfl (s_ofCradle _ c 1 (by omega) (by omega)) (by first | rfl | (simp only [nI_add, pk_mul]; first | done | rfl)) rfl ?_
      refine AR.gt2 (tgt := 59) dc_X5_mayHave_52 (by decide) (fun c52_5 => ?_) (fun c52_5 => ?_)
      · refine AR.run g_X5_mayHave_59_3 63 [some (.ref 16384), some (.int (nI (c))), some (.int (nI (v))), some (.int (nI (0))), some (.int (nI (0)))] [.int (nI (0))] _ [] rfl trivial ?_
        refine AR.eqN (tgt := 84) (a := 0) dc_X5_mayHave_63 (by decide) (by first | rfl | (simp only [nI_add, pk_mul]; first | done | rfl)) (by omega) (fun c63_6 => ?_) (fun c63_6 => absurd c63_6 (by omega))
        refine AR.run g_X5_mayHave_84_1 85 [some (.ref 16384), some (.int (nI (c))), some (.int (nI (v))), some (.int (nI (0))), some (.int (nI (0)))] [.int (nI (0))] _ [] rfl trivial ?_
        have e7_0 : F_5mayHave c v nv z = (nI (0)) := by rw [F_5mayHave, if_neg c6_1, if_neg c37_2, if_pos c52_5]
        exact AR.retZ dc_X5_mayHave_85 rfl (Or.inl rfl) e7_0.symm rfl
      · refine AR.run g_X5_mayHave_55_4 63 [some (.ref 16384), some (.int (nI (c))), some (.int (nI (v))), some (.int (nI (0))), some (.int (nI (1)))] [.int (nI (0))] _ [] rfl trivial ?_
        refine AR.eqN (tgt := 84) (a := 0) dc_X5_mayHave_63 (by decide) (by first | rfl | (simp only [nI_add, pk_mul]; first | done | rfl)) (by omega) (fun c63_8 => ?_) (fun c63_8 => absurd c63_8 (by omega))
        refine AR.run g_X5_mayHave_84_1 85 [some (.ref 16384), some (.int (nI (c))), some (.int (nI (v))), some (.int (nI (0))), some (.int (nI (1)))] [.int (nI (0))] _ [] rfl trivial ?_
        have e9_0 : F_5mayHave c v nv z = (nI (0)) := by rw [F_5mayHave, if_neg c6_1, if_neg c37_2, if_neg c52_5]
        exact AR.retZ dc_X5_mayHave_85 rfl (Or.inl rfl) e9_0.symm rfl
  · refine AR.run g_X5_mayHave_9_3 13 [some (.ref 16384), some (.int (nI (c))), some (.int (nI (v))), none, none] [.int (nI (6)), .int (nI (v)), .ref 16384] _ [] rfl trivial ?_
    refine AR.callV1 (16384) [.int (nI (v)), .int (nI (6))] [] lk_5_62 dc_X5_mayHave_13 rfl rfl (s_ofVolume _ v 6 (by omega) (by omega)) (by first | rfl | (simp only [nI_add, pk_mul]; first | done | rfl)) rfl ?_
    refine AR.ne (tgt := 23) dc_X5_mayHave_16 (by decide) (fun c16_10 => ?_) (fun c16_10 => ?_)
    · refine AR.run g_X5_mayHave_23_5 28 [some (.ref 16384), some (.int (nI (c))), some (.int (nI (v))), some (.int (nI (0))), none] [.int (nI (1)), .int (nI (v)), .ref 16384] _ [] rfl trivial ?_
      refine AR.callV1 (16384) [.int (nI (v)), .int (nI (1))] [] lk_5_62 dc_X5_mayHave_28 rfl rfl (s_ofVolume _ v 1 (by omega) (by omega)) (by first | rfl | (simp only [nI_add, pk_mul]; first | done | rfl)) rfl ?_
      refine AR.run g_X5_mayHave_31_3 34 [some (.ref 16384), some (.int (nI (c))), some (.int (nI (v))), some (.int (nI (0))), none] [.int (nI (0)), .int (nI (c)), .ref 16384, .int (z (11 + 7 * v + 1))] _ [] rfl trivial ?_
      refine AR.callV1 (16384) [.int (nI (c)), .int (nI (0))] [.int (z (11 + 7 * v + 1))] lk_5_72 dc_X5_mayHave_34 rfl rfl (s_ofCradle _ c 0 (by omega) (by omega)) (by first | rfl | (simp only [nI_add, pk_mul]; first | done | rfl)) rfl ?_
      refine AR.gt2 (tgt := 59) dc_X5_mayHave_37 (by decide) (fun c37_11 => ?_) (fun c37_11 => ?_)
      · refine AR.run g_X5_mayHave_59_3 63 [some (.ref 16384), some (.int (nI (c))), some (.int (nI (v))), some (.int (nI (0))), some (.int (nI (0)))] [.int (nI (0))] _ [] rfl trivial ?_
        refine AR.eqN (tgt := 84) (a := 0) dc_X5_mayHave_63 (by decide) (by first | rfl | (simp only [nI_add, pk_mul]; first | done | rfl)) (by omega) (fun c63_12 => ?_) (fun c63_12 => absurd c63_12 (by omega))
        refine AR.run g_X5_mayHave_84_1 85 [some (.ref 16384), some (.int (nI (c))), some (.int (nI (v))), some (.int (nI (0))), some (.int (nI (0)))] [.int (nI (0))] _ [] rfl trivial ?_
        have e13_0 : F_5mayHave c v nv z = (nI (0)) := by rw [F_5mayHave, if_pos c6_1, if_neg c16_10, if_pos c37_11]
        exact AR.retZ dc_X5_mayHave_85 rfl (Or.inl rfl) e13_0.symm rfl
      · refine AR.run g_X5_mayHave_40_3 43 [some (.ref 16384), some (.int (nI (c))), some (.int (nI (v))), some (.int (nI (0))), none] [.int (nI (3)), .int (nI (v)), .ref 16384] _ [] rfl trivial ?_
        refine AR.callV1 (16384) [.int (nI (v)), .int (nI (3))] [] lk_5_62 dc_X5_mayHave_43 rfl rfl (s_ofVolume _ v 3 (by omega) (by omega)) (by first | rfl | (simp only [nI_add, pk_mul]; first | done | rfl)) rfl ?_
        refine AR.run g_X5_mayHave_46_3 49 [some (.ref 16384), some (.int (nI (c))), some (.int (nI (v))), some (.int (nI (0))), none] [.int (nI (1)), .int (nI (c)), .ref 16384, .int (z (11 + 7 * v + 3))] _ [] rfl trivial ?_
        refine AR.callV1 (16384) [.int (nI (c)), .int (nI (1))] [.int (z (11 + 7 * v + 3))] lk_5_72 dc_X5_mayHave_49 rfl rfl (s_ofCradle _ c 1 (by omega) (by omega)) (by first | rfl | (simp only [nI_add, pk_mul]; first | done | rfl)) rfl ?_
        refine AR.gt2 (tgt := 59) dc_X5_mayHave_52 (by decide) (fun c52_14 => ?_) (fun c52_14 => ?_)
        · refine AR.run g_X5_mayHave_59_3 63 [some (.ref 16384), some (.int (nI (c))), some (.int (nI (v))), some (.int (nI (0))), some (.int (nI (0)))] [.int (nI (0))] _ [] rfl trivial ?_
          refine AR.eqN (tgt := 84) (a := 0) dc_X5_mayHave_63 (by decide) (by first | rfl | (simp only [nI_add, pk_mul]; first | done | rfl)) (by omega) (fun c63_15 => ?_) (fun c63_15 => absurd c63_15 (by omega))
          refine AR.run g_X5_mayHave_84_1 85 [some (.ref 16384), some (.int (nI (c))), some (.int (nI (v))), some (.int (nI (0))), some (.int (nI (0)))] [.int (nI (0))] _ [] rfl trivial ?_
          have e16_0 : F_5mayHave c v nv z = (nI (0)) := by rw [F_5mayHave, if_pos c6_1, if_neg c16_10, if_neg c37_11, if_pos c52_14]
          exact AR.retZ dc_X5_mayHave_85 rfl (Or.inl rfl) e16_0.symm rfl
        · refine AR.run g_X5_mayHave_55_4 63 [some (.ref 16384), some (.int (nI (c))), some (.int (nI (v))), some (.int (nI (0))), some (.int (nI (1)))] [.int (nI (0))] _ [] rfl trivial ?_
          refine AR.eqN (tgt := 84) (a := 0) dc_X5_mayHave_63 (by decide) (by first | rfl | (simp only [nI_add, pk_mul]; first | done | rfl)) (by omega) (fun c63_17 => ?_) (fun c63_17 => absurd c63_17 (by omega))
          refine AR.run g_X5_mayHave_84_1 85 [some (.ref 16384), some (.int (nI (c))), some (.int (nI (v))), some (.int (nI (0))), some (.int (nI (1)))] [.int (nI (0))] _ [] rfl trivial ?_
          have e18_0 : F_5mayHave c v nv z = (nI (0)) := by rw [F_5mayHave, if_pos c6_1, if_neg c16_10, if_neg c37_11, if_neg c52_14]
          exact AR.retZ dc_X5_mayHave_85 rfl (Or.inl rfl) e18_0.symm rfl
    · refine AR.run g_X5_mayHave_19_6 28 [some (.ref 16384), some (.int (nI (c))), some (.int (nI (v))), some (.int (nI (1))), none] [.int (nI (1)), .int (nI (v)), .ref 16384] _ [] rfl trivial ?_
      refine AR.callV1 (16384) [.int (nI (v)), .int (nI (1))] [] lk_5_62 dc_X5_mayHave_28 rfl rfl (s_ofVolume _ v 1 (by omega) (by omega)) (by first | rfl | (simp only [nI_add, pk_mul]; first | done | rfl)) rfl ?_
      refine AR.run g_X5_mayHave_31_3 34 [some (.ref 16384), some (.int (nI (c))), some (.int (nI (v))), some (.int (nI (1))), none] [.int (nI (0)), .int (nI (c)), .ref 16384, .int (z (11 + 7 * v + 1))] _ [] rfl trivial ?_
      refine AR.callV1 (16384) [.int (nI (c)), .int (nI (0))] [.int (z (11 + 7 * v + 1))] lk_5_72 dc_X5_mayHave_34 rfl rfl (s_ofCradle _ c 0 (by omega) (by omega)) (by first | rfl | (simp only [nI_add, pk_mul]; first | done | rfl)) rfl ?_
      refine AR.gt2 (tgt := 59) dc_X5_mayHave_37 (by decide) (fun c37_19 => ?_) (fun c37_19 => ?_)
      · refine AR.run g_X5_mayHave_59_3 63 [some (.ref 16384), some (.int (nI (c))), some (.int (nI (v))), some (.int (nI (1))), some (.int (nI (0)))] [.int (nI (1))] _ [] rfl trivial ?_
        refine AR.eqN (tgt := 84) (a := 1) dc_X5_mayHave_63 (by decide) (by first | rfl | (simp only [nI_add, pk_mul]; first | done | rfl)) (by omega) (fun c63_20 => absurd c63_20 (by omega)) (fun c63_20 => ?_)
        refine AR.run g_X5_mayHave_66_1 68 [some (.ref 16384), some (.int (nI (c))), some (.int (nI (v))), some (.int (nI (1))), some (.int (nI (0)))] [.int (nI (0))] _ [] rfl trivial ?_
        refine AR.eqN (tgt := 84) (a := 0) dc_X5_mayHave_68 (by decide) (by first | rfl | (simp only [nI_add, pk_mul]; first | done | rfl)) (by omega) (fun c68_21 => ?_) (fun c68_21 => absurd c68_21 (by omega))
        refine AR.run g_X5_mayHave_84_1 85 [some (.ref 16384), some (.int (nI (c))), some (.int (nI (v))), some (.int (nI (1))), some (.int (nI (0)))] [.int (nI (0))] _ [] rfl trivial ?_
        have e22_0 : F_5mayHave c v nv z = (nI (0)) := by rw [F_5mayHave, if_pos c6_1, if_pos c16_10, if_pos c37_19]
        exact AR.retZ dc_X5_mayHave_85 rfl (Or.inl rfl) e22_0.symm rfl
      · refine AR.run g_X5_mayHave_40_3 43 [some (.ref 16384), some (.int (nI (c))), some (.int (nI (v))), some (.int (nI (1))), none] [.int (nI (3)), .int (nI (v)), .ref 16384] _ [] rfl trivial ?_
        refine AR.callV1 (16384) [.int (nI (v)), .int (nI (3))] [] lk_5_62 dc_X5_mayHave_43 rfl rfl (s_ofVolume _ v 3 (by omega) (by omega)) (by first | rfl | (simp only [nI_add, pk_mul]; first | done | rfl)) rfl ?_
        refine AR.run g_X5_mayHave_46_3 49 [some (.ref 16384), some (.int (nI (c))), some (.int (nI (v))), some (.int (nI (1))), none] [.int (nI (1)), .int (nI (c)), .ref 16384, .int (z (11 + 7 * v + 3))] _ [] rfl trivial ?_
        refine AR.callV1 (16384) [.int (nI (c)), .int (nI (1))] [.int (z (11 + 7 * v + 3))] lk_5_72 dc_X5_mayHave_49 rfl rfl (s_ofCradle _ c 1 (by omega) (by omega)) (by first | rfl | (simp only [nI_add, pk_mul]; first | done | rfl)) rfl ?_
        refine AR.gt2 (tgt := 59) dc_X5_mayHave_52 (by decide) (fun c52_23 => ?_) (fun c52_23 => ?_)
        · refine AR.run g_X5_mayHave_59_3 63 [some (.ref 16384), some (.int (nI (c))), some (.int (nI (v))), some (.int (nI (1))), some (.int (nI (0)))] [.int (nI (1))] _ [] rfl trivial ?_
          refine AR.eqN (tgt := 84) (a := 1) dc_X5_mayHave_63 (by decide) (by first | rfl | (simp only [nI_add, pk_mul]; first | done | rfl)) (by omega) (fun c63_24 => absurd c63_24 (by omega)) (fun c63_24 => ?_)
          refine AR.run g_X5_mayHave_66_1 68 [some (.ref 16384), some (.int (nI (c))), some (.int (nI (v))), some (.int (nI (1))), some (.int (nI (0)))] [.int (nI (0))] _ [] rfl trivial ?_
          refine AR.eqN (tgt := 84) (a := 0) dc_X5_mayHave_68 (by decide) (by first | rfl | (simp only [nI_add, pk_mul]; first | done | rfl)) (by omega) (fun c68_25 => ?_) (fun c68_25 => absurd c68_25 (by omega))
          refine AR.run g_X5_mayHave_84_1 85 [some (.ref 16384), some (.int (nI (c))), some (.int (nI (v))), some (.int (nI (1))), some (.int (nI (0)))] [.int (nI (0))] _ [] rfl trivial ?_
          have e26_0 : F_5mayHave c v nv z = (nI (0)) := by rw [F_5mayHave, if_pos c6_1, if_pos c16_10, if_neg c37_19, if_pos c52_23]
          exact AR.retZ dc_X5_mayHave_85 rfl (Or.inl rfl) e26_0.symm rfl
        · refine AR.run g_X5_mayHave_55_4 63 [some (.ref 16384), some (.int (nI (c))), some (.int (nI (v))), some (.int (nI (1))), some (.int (nI (1)))] [.int (nI (1))] _ [] rfl trivial ?_
          refine AR.eqN (tgt := 84) (a := 1) dc_X5_mayHave_63 (by decide) (by first | rfl | (simp only [nI_add, pk_mul]; first | done | rfl)) (by omega) (fun c63_27 => absurd c63_27 (by omega)) (fun c63_27 => ?_)
          refine AR.run g_X5_mayHave_66_1 68 [some (.ref 16384), some (.int (nI (c))), some (.int (nI (v))), some (.int (nI (1))), some (.int (nI (1)))] [.int (nI (1))] _ [] rfl trivial ?_
          refine AR.eqN (tgt := 84) (a := 1) dc_X5_mayHave_68 (by decide) (by first | rfl | (simp only [nI_add, pk_mul]; first | done | rfl)) (by omega) (fun c68_28 => absurd c68_28 (by omega)) (fun c68_28 => ?_)
          refine AR.run g_X5_mayHave_71_2 73 [some (.ref 16384), some (.int (nI (c))), some (.int (nI (v))), some (.int (nI (1))), some (.int (nI (1)))] [.int (nI (c)), .ref 16384] _ [] rfl trivial ?_
          refine AR.callV1 (16384) [.int (nI (c))] [] lk_5_69 dc_X5_mayHave_73 rfl rfl (s_volumeOn _ (nI (c)) hZ.1.1 hZ.1.2) (by first | rfl | (simp only [nI_add, pk_mul]; first | done | rfl)) rfl ?_
          refine AR.run g_X5_mayHave_76_1 77 [some (.ref 16384), some (.int (nI (c))), some (.int (nI (v))), some (.int (nI (1))), some (.int (nI (1)))] [.int (-1), .int (oI (vo z (nI (c)) nv))] _ [] rfl trivial ?_
          refine AR.ne2 (tgt := 84) dc_X5_mayHave_77 (by decide) (fun c77_29 => ?_) (fun c77_29 => ?_)
          · refine AR.run g_X5_mayHave_84_1 85 [some (.ref 16384), some (.int (nI (c))), some (.int (nI (v))), some (.int (nI (1))), some (.int (nI (1)))] [.int (nI (0))] _ [] rfl trivial ?_
            have e30_0 : F_5mayHave c v nv z = (nI (0)) := by rw [F_5mayHave, if_pos c6_1, if_pos c16_10, if_neg c37_19, if_neg c52_23, if_neg c77_29]
            exact AR.retZ dc_X5_mayHave_85 rfl (Or.inl rfl) e30_0.symm rfl
          · refine AR.run g_X5_mayHave_80_2 85 [some (.ref 16384), some (.int (nI (c))), some (.int (nI (v))), some (.int (nI (1))), some (.int (nI (1)))] [.int (nI (1))] _ [] rfl trivial ?_
            have e31_0 : F_5mayHave c v nv z = (nI (1)) := by rw [F_5mayHave, if_pos c6_1, if_pos c16_10, if_neg c37_19, if_neg c52_23, if_pos c77_29]
            exact AR.retZ dc_X5_mayHave_85 rfl (Or.inr rfl) e31_0.symm rfl
def W_5scansOf_32 (c : Nat) (z : Nat → Int32) : Nat → Nat → (Int32) → (Int32) → (Int32) → (Int32) → (Int32) → (Int32)
  | 0, j32, x32_4, x32_5, x32_6, x32_7, x32_8 => x32_8
  | f32 + 1, j32, x32_4, x32_5, x32_6, x32_7, x32_8 => if x32_6 ≤ 0 then x32_8 else if (z (95 + 4 * c + 1)) < x32_4 then x32_8 else if (x32_7 + (nI (1))) < ((z 7) + ((z 8) * x32_4)) then W_5scansOf_32 c z f32 (j32 + 1) x32_4 x32_5 x32_6 (x32_7 + (nI (1))) x32_8 else if (x32_5 + (nI (1))) < (z 9) then if (x32_5 + (nI (1))) < (z 9) then W_5scansOf_32 c z f32 (j32 + 1) (x32_4 + (nI (0))) (x32_5 + (nI (1))) (x32_6 + (-1)) (nI (0)) (x32_8 + (nI (1))) else W_5scansOf_32 c z f32 (j32 + 1) (x32_4 + (nI (0))) (nI (0)) (x32_6 + (-1)) (nI (0)) (x32_8 + (nI (1))) else if (x32_5 + (nI (1))) < (z 9) then W_5scansOf_32 c z f32 (j32 + 1) (x32_4 + (nI (1))) (x32_5 + (nI (1))) (x32_6 + (-1)) (nI (0)) (x32_8 + (nI (1))) else W_5scansOf_32 c z f32 (j32 + 1) (x32_4 + (nI (1))) (nI (0)) (x32_6 + (-1)) (nI (0)) (x32_8 + (nI (1)))
theorem g_X5_scansOf_0_3 : ab_oks M_X5_scansOf [(0, .aload_n 0, 1, 0, 0, 0, .null), (1, .iload_n 2, 1, 2, 0, 0, .null), (2, .iconst 3, 1, 0, 0, 0, .int (nI (3)))] = true := by decide +kernel
theorem dc_X5_scansOf_3 : decode (AM.bytes M_X5_scansOf) 3 = .ok (.invokevirtual 62, 3) := by decide +kernel
theorem g_X5_scansOf_6_4 : ab_oks M_X5_scansOf [(6, .istore 4, 2, 4, 0, 0, .null), (8, .aload_n 0, 1, 0, 0, 0, .null), (9, .iload_n 2, 1, 2, 0, 0, .null), (10, .iconst 4, 1, 0, 0, 0, .int (nI (4)))] = true := by decide +kernel
theorem dc_X5_scansOf_11 : decode (AM.bytes M_X5_scansOf) 11 = .ok (.invokevirtual 62, 3) := by decide +kernel
theorem g_X5_scansOf_14_3 : ab_oks M_X5_scansOf [(14, .istore 5, 2, 5, 0, 0, .null), (16, .aload_n 0, 1, 0, 0, 0, .null), (17, .iload_n 2, 1, 2, 0, 0, .null)] = true := by decide +kernel
theorem lk_5_203 : ab_lkV "LeafCradlesModel" 203 M_X5_toScan 1 [1299, 1301, 82, 97, 1302] = true := by decide +kernel
theorem dc_X5_scansOf_18 : decode (AM.bytes M_X5_scansOf) 18 = .ok (.invokevirtual 203, 3) := by decide +kernel
theorem g_X5_scansOf_21_7 : ab_oks M_X5_scansOf [(21, .istore 6, 2, 6, 0, 0, .null), (23, .iconst 0, 1, 0, 0, 0, .int (nI (0))), (24, .istore 7, 2, 7, 0, 0, .null), (26, .iconst 0, 1, 0, 0, 0, .int (nI (0))), (27, .istore 8, 2, 8, 0, 0, .null), (29, .iconst 0, 1, 0, 0, 0, .int (nI (0))), (30, .istore 9, 2, 9, 0, 0, .null)] = true := by decide +kernel
theorem g_X5_scansOf_32_2 : ab_oks M_X5_scansOf [(32, .iload 9, 2, 9, 0, 0, .null), (34, .iload_n 3, 1, 3, 0, 0, .null)] = true := by decide +kernel
theorem dc_X5_scansOf_35 : decode (AM.bytes M_X5_scansOf) 35 = .ok (.if_icmp .ge 105, 3) := by decide +kernel
theorem g_X5_scansOf_140_1 : ab_oks M_X5_scansOf [(140, .iload 8, 2, 8, 0, 0, .null)] = true := by decide +kernel
theorem dc_X5_scansOf_142 : decode (AM.bytes M_X5_scansOf) 142 = .ok (.ireturn, 1) := by decide +kernel
theorem g_X5_scansOf_38_1 : ab_oks M_X5_scansOf [(38, .iload 6, 2, 6, 0, 0, .null)] = true := by decide +kernel
theorem dc_X5_scansOf_40 : decode (AM.bytes M_X5_scansOf) 40 = .ok (.ifCond .le 100, 3) := by decide +kernel
theorem g_X5_scansOf_43_4 : ab_oks M_X5_scansOf [(43, .iload 4, 2, 4, 0, 0, .null), (45, .aload_n 0, 1, 0, 0, 0, .null), (46, .iload_n 1, 1, 1, 0, 0, .null), (47, .iconst 1, 1, 0, 0, 0, .int (nI (1)))] = true := by decide +kernel
theorem dc_X5_scansOf_48 : decode (AM.bytes M_X5_scansOf) 48 = .ok (.invokevirtual 72, 3) := by decide +kernel
theorem dc_X5_scansOf_51 : decode (AM.bytes M_X5_scansOf) 51 = .ok (.if_icmp .gt 89, 3) := by decide +kernel
theorem g_X5_scansOf_54_5 : ab_oks M_X5_scansOf [(54, .iinc 7 1, 3, 7, 0, 0, .int (nI (1))), (57, .iload 7, 2, 7, 0, 0, .null), (59, .aload_n 0, 1, 0, 0, 0, .null), (60, .getfield 7, 3, 5, 0, 936, .null), (63, .bipush 7, 2, 0, 0, 0, .int (nI (7)))] = true := by decide +kernel
theorem ok_X5_scansOf_65 : ab_ok M_X5_scansOf (65, .iaload, 1, 0, 0, 0, .null) = true := by decide +kernel
theorem g_X5_scansOf_66_3 : ab_oks M_X5_scansOf [(66, .aload_n 0, 1, 0, 0, 0, .null), (67, .getfield 7, 3, 5, 0, 936, .null), (70, .bipush 8, 2, 0, 0, 0, .int (nI (8)))] = true := by decide +kernel
theorem ok_X5_scansOf_72 : ab_ok M_X5_scansOf (72, .iaload, 1, 0, 0, 0, .null) = true := by decide +kernel
theorem g_X5_scansOf_73_3 : ab_oks M_X5_scansOf [(73, .iload 4, 2, 4, 0, 0, .null), (75, .imul, 1, 0, 0, 0, .null), (76, .iadd, 1, 0, 0, 0, .null)] = true := by decide +kernel
theorem dc_X5_scansOf_77 : decode (AM.bytes M_X5_scansOf) 77 = .ok (.if_icmp .lt 57, 3) := by decide +kernel
theorem g_X5_scansOf_134_2 : ab_oks M_X5_scansOf [(134, .iinc 9 1, 3, 9, 0, 0, .int (nI (1))), (137, .goto (-105), 3, 32, 0, 0, .null)] = true := by decide +kernel
theorem g_X5_scansOf_80_10 : ab_oks M_X5_scansOf [(80, .iconst 0, 1, 0, 0, 0, .int (nI (0))), (81, .istore 7, 2, 7, 0, 0, .null), (83, .iinc 6 (-1), 3, 6, 0, 0, .int (-1)), (86, .iinc 8 1, 3, 8, 0, 0, .int (nI (1))), (89, .iinc 5 1, 3, 5, 0, 0, .int (nI (1))), (92, .iload 4, 2, 4, 0, 0, .null), (94, .iload 5, 2, 5, 0, 0, .null), (96, .aload_n 0, 1, 0, 0, 0, .null), (97, .getfield 7, 3, 5, 0, 936, .null), (100, .bipush 9, 2, 0, 0, 0, .int (nI (9)))] = true := by decide +kernel
theorem ok_X5_scansOf_102 : ab_ok M_X5_scansOf (102, .iaload, 1, 0, 0, 0, .null) = true := by decide +kernel
theorem dc_X5_scansOf_103 : decode (AM.bytes M_X5_scansOf) 103 = .ok (.if_icmp .lt 7, 3) := by decide +kernel
theorem g_X5_scansOf_110_7 : ab_oks M_X5_scansOf [(110, .iconst 0, 1, 0, 0, 0, .int (nI (0))), (111, .iadd, 1, 0, 0, 0, .null), (112, .istore 4, 2, 4, 0, 0, .null), (114, .iload 5, 2, 5, 0, 0, .null), (116, .aload_n 0, 1, 0, 0, 0, .null), (117, .getfield 7, 3, 5, 0, 936, .null), (120, .bipush 9, 2, 0, 0, 0, .int (nI (9)))] = true := by decide +kernel
theorem ok_X5_scansOf_122 : ab_ok M_X5_scansOf (122, .iaload, 1, 0, 0, 0, .null) = true := by decide +kernel
theorem dc_X5_scansOf_123 : decode (AM.bytes M_X5_scansOf) 123 = .ok (.if_icmp .lt 7, 3) := by decide +kernel
theorem g_X5_scansOf_130_4 : ab_oks M_X5_scansOf [(130, .iload 5, 2, 5, 0, 0, .null), (132, .istore 5, 2, 5, 0, 0, .null), (134, .iinc 9 1, 3, 9, 0, 0, .int (nI (1))), (137, .goto (-105), 3, 32, 0, 0, .null)] = true := by decide +kernel
theorem g_X5_scansOf_126_5 : ab_oks M_X5_scansOf [(126, .iconst 0, 1, 0, 0, 0, .int (nI (0))), (127, .goto 5, 3, 132, 0, 0, .null), (132, .istore 5, 2, 5, 0, 0, .null), (134, .iinc 9 1, 3, 9, 0, 0, .int (nI (1))), (137, .goto (-105), 3, 32, 0, 0, .null)] = true := by decide +kernel
theorem g_X5_scansOf_106_8 : ab_oks M_X5_scansOf [(106, .iconst 1, 1, 0, 0, 0, .int (nI (1))), (107, .goto 4, 3, 111, 0, 0, .null), (111, .iadd, 1, 0, 0, 0, .null), (112, .istore 4, 2, 4, 0, 0, .null), (114, .iload 5, 2, 5, 0, 0, .null), (116, .aload_n 0, 1, 0, 0, 0, .null), (117, .getfield 7, 3, 5, 0, 936, .null), (120, .bipush 9, 2, 0, 0, 0, .int (nI (9)))] = true := by decide +kernel
set_option maxRecDepth 100000 in
set_option maxHeartbeats 4000000 in
theorem s_5scansOf {E : AE} (d : Nat) (c : Nat) (v : Nat) (m : Nat) {nv : Nat} {nc : Nat} {nr : Nat} {ne : Nat}  {o0 a0 t0 p0 u0 l0 : List AC} {z sa ro te fr to un ga pi be : Nat → Int32} {bm en sta sv ln th : Int32} {hh : Int64} (hZ : ZI z nv nc nr ne) (hc : c < 4) (hv : v < nv) (hm : m ≤ 500) : CT E M_X5_scansOf (d + 3) [.ref 16384, .int (nI (c)), .int (nI (v)), .int (nI (m))] (hp o0 a0 t0 p0 (mo z sa ro te fr to un ga pi be bm en sta sv ln th hh) u0 l0) (.inl (some (.int (W_5scansOf_32 c z m 0 (z (11 + 7 * v + 3)) (z (11 + 7 * v + 4)) ((nI ((lv z v))) - (L_5leavesWith_5 v (nI (1)) z (lv z v))) (nI (0)) (nI (0)))))) (hp o0 a0 t0 p0 (mo z sa ro te fr to un ga pi be bm en sta sv ln th hh) u0 l0) 0 0 := by
  obtain ⟨⟨hnv, h12⟩, ⟨hnc, h4⟩, ⟨hnr, h3⟩, ⟨hne, h60⟩, hLV⟩ := id hZ
  refine CT.of (L := [some (.ref 16384), some (.int (nI (c))), some (.int (nI (v))), some (.int (nI (m))), none, none, none, none, none, none]) rfl rfl ?_
  refine AR.run g_X5_scansOf_0_3 3 [some (.ref 16384), some (.int (nI (c))), some (.int (nI (v))), some (.int (nI (m))), none, none, none, none, none, none] [.int (nI (3)), .int (nI (v)), .ref 16384] _ [] rfl trivial ?_
  refine AR.callV1 (16384) [.int (nI (v)), .int (nI (3))] [] lk_5_62 dc_X5_scansOf_3 rfl rfl (s_ofVolume _ v 3 (by omega) (by omega)) (by first | rfl | (simp only [nI_add, pk_mul]; first | done | rfl)) rfl ?_
  refine AR.run g_X5_scansOf_6_4 11 [some (.ref 16384), some (.int (nI (c))), some (.int (nI (v))), some (.int (nI (m))), some (.int (z (11 + 7 * v + 3))), none, none, none, none, none] [.int (nI (4)), .int (nI (v)), .ref 16384] _ [] rfl trivial ?_
  refine AR.callV1 (16384) [.int (nI (v)), .int (nI (4))] [] lk_5_62 dc_X5_scansOf_11 rfl rfl (s_ofVolume _ v 4 (by omega) (by omega)) (by first | rfl | (simp only [nI_add, pk_mul]; first | done | rfl)) rfl ?_
  refine AR.run g_X5_scansOf_14_3 18 [some (.ref 16384), some (.int (nI (c))), some (.int (nI (v))), some (.int (nI (m))), some (.int (z (11 + 7 * v + 3))), some (.int (z (11 + 7 * v + 4))), none, none, none, none] [.int (nI (v)), .ref 16384] _ [] rfl trivial ?_
  refine AR.callV1 (16384) [.int (nI (v))] [] lk_5_203 dc_X5_scansOf_18 rfl rfl (s_5toScan _ v (by omega) (by first | assumption | exact (hLV v (by omega)).1) (by first | assumption | exact (hLV v (by omega)).2)) (by first | rfl | (simp only [nI_add, pk_mul]; first | done | rfl)) rfl ?_
  refine AR.run g_X5_scansOf_21_7 32 [some (.ref 16384), some (.int (nI (c))), some (.int (nI (v))), some (.int (nI (m))), some (.int (z (11 + 7 * v + 3))), some (.int (z (11 + 7 * v + 4))), some (.int ((nI ((lv z v))) - (L_5leavesWith_5 v (nI (1)) z (lv z v)))), some (.int (nI (0))), some (.int (nI (0))), some (.int (nI (0)))] [] _ [] rfl trivial ?_
  have hW : ∀ (f32 j32 : Nat) (x32_4 : Int32) (x32_5 : Int32) (x32_6 : Int32) (x32_7 : Int32) (x32_8 : Int32), j32 + f32 = m → AR E M_X5_scansOf (d + 3) 32 [some (.ref 16384), some (.int (nI (c))), some (.int (nI (v))), some (.int (nI (m))), some (.int (x32_4)), some (.int (x32_5)), some (.int (x32_6)), some (.int (x32_7)), some (.int (x32_8)), some (.int (nI (j32)))] [] (hp o0 a0 t0 p0 (mo z sa ro te fr to un ga pi be bm en sta sv ln th hh) u0 l0) (.inl (some (.int (W_5scansOf_32 c z f32 j32 x32_4 x32_5 x32_6 x32_7 x32_8)))) (hp o0 a0 t0 p0 (mo z sa ro te fr to un ga pi be bm en sta sv ln th hh) u0 l0) 0 0 := by
    intro f32
    induction f32 with
    | zero => 
      intro j32 x32_4 x32_5 x32_6 x32_7 x32_8 hj32
      refine AR.run g_X5_scansOf_32_2 35 [some (.ref 16384), some (.int (nI (c))), some (.int (nI (v))), some (.int (nI (m))), some (.int (x32_4)), some (.int (x32_5)), some (.int (x32_6)), some (.int (x32_7)), some (.int (x32_8)), some (.int (nI (j32)))] [.int (nI (m)), .int (nI (j32))] _ [] rfl trivial ?_
      refine AR.ge2N (tgt := 140) (a := j32) (b := m) dc_X5_scansOf_35 (by decide) (by first | rfl | (simp only [nI_add, pk_mul]; first | done | rfl)) (by first | rfl | (simp only [nI_add, pk_mul]; first | done | rfl)) (by omega) (by omega) (fun c35_1 => ?_) (fun c35_1 => absurd c35_1 (by omega))
      refine AR.run g_X5_scansOf_140_1 142 [some (.ref 16384), some (.int (nI (c))), some (.int (nI (v))), some (.int (nI (m))), some (.int (x32_4)), some (.int (x32_5)), some (.int (x32_6)), some (.int (x32_7)), some (.int (x32_8)), some (.int (nI (j32)))] [.int (x32_8)] _ [] rfl trivial ?_
      have e2 : W_5scansOf_32 c z 0 j32 x32_4 x32_5 x32_6 x32_7 x32_8 = x32_8 := by rw [W_5scansOf_32]
      rw [e2]
      exact AR.retI dc_X5_scansOf_142 rfl rfl rfl
    | succ f32 ih32 => 
      intro j32 x32_4 x32_5 x32_6 x32_7 x32_8 hj32
      refine AR.run g_X5_scansOf_32_2 35 [some (.ref 16384), some (.int (nI (c))), some (.int (nI (v))), some (.int (nI (m))), some (.int (x32_4)), some (.int (x32_5)), some (.int (x32_6)), some (.int (x32_7)), some (.int (x32_8)), some (.int (nI (j32)))] [.int (nI (m)), .int (nI (j32))] _ [] rfl trivial ?_
      refine AR.ge2N (tgt := 140) (a := j32) (b := m) dc_X5_scansOf_35 (by decide) (by first | rfl | (simp only [nI_add, pk_mul]; first | done | rfl)) (by first | rfl | (simp only [nI_add, pk_mul]; first | done | rfl)) (by omega) (by omega) (fun c35_3 => absurd c35_3 (by omega)) (fun c35_3 => ?_)
      refine AR.run g_X5_scansOf_38_1 40 [some (.ref 16384), some (.int (nI (c))), some (.int (nI (v))), some (.int (nI (m))), some (.int (x32_4)), some (.int (x32_5)), some (.int (x32_6)), some (.int (x32_7)), some (.int (x32_8)), some (.int (nI (j32)))] [.int (x32_6)] _ [] rfl trivial ?_
      refine AR.le (tgt := 140) dc_X5_scansOf_40 (by decide) (fun c40_4 => ?_) (fun c40_4 => ?_)
      · refine AR.run g_X5_scansOf_140_1 142 [some (.ref 16384), some (.int (nI (c))), some (.int (nI (v))), some (.int (nI (m))), some (.int (x32_4)), some (.int (x32_5)), some (.int (x32_6)), some (.int (x32_7)), some (.int (x32_8)), some (.int (nI (j32)))] [.int (x32_8)] _ [] rfl trivial ?_
        have e5 : W_5scansOf_32 c z (f32 + 1) j32 x32_4 x32_5 x32_6 x32_7 x32_8 = x32_8 := by rw [W_5scansOf_32, if_pos c40_4]
        rw [e5]
        exact AR.retI dc_X5_scansOf_142 rfl rfl rfl
      · refine AR.run g_X5_scansOf_43_4 48 [some (.ref 16384), some (.int (nI (c))), some (.int (nI (v))), some (.int (nI (m))), some (.int (x32_4)), some (.int (x32_5)), some (.int (x32_6)), some (.int (x32_7)), some (.int (x32_8)), some (.int (nI (j32)))] [.int (nI (1)), .int (nI (c)), .ref 16384, .int (x32_4)] _ [] rfl trivial ?_
        refine AR.callV1 (16384) [.int (nI (c)), .int (nI (1))] [.int (x32_4)] lk_5_72 dc_X5_scansOf_48 rfl rfl (s_ofCradle _ c 1 (by omega) (by omega)) (by first | rfl | (simp only [nI_add, pk_mul]; first | done | rfl)) rfl ?_
        refine AR.gt2 (tgt := 140) dc_X5_scansOf_51 (by decide) (fun c51_6 => ?_) (fun c51_6 => ?_)
        · refine AR.run g_X5_scansOf_140_1 142 [some (.ref 16384), some (.int (nI (c))), some (.int (nI (v))), some (.int (nI (m))), some (.int (x32_4)), some (.int (x32_5)), some (.int (x32_6)), some (.int (x32_7)), some (.int (x32_8)), some (.int (nI (j32)))] [.int (x32_8)] _ [] rfl trivial ?_
          have e7 : W_5scansOf_32 c z (f32 + 1) j32 x32_4 x32_5 x32_6 x32_7 x32_8 = x32_8 := by rw [W_5scansOf_32, if_neg c40_4, if_pos c51_6]
          rw [e7]
          exact AR.retI dc_X5_scansOf_142 rfl rfl rfl
        · refine AR.run g_X5_scansOf_54_5 65 [some (.ref 16384), some (.int (nI (c))), some (.int (nI (v))), some (.int (nI (m))), some (.int (x32_4)), some (.int (x32_5)), some (.int (x32_6)), some (.int (x32_7 + (nI (1)))), some (.int (x32_8)), some (.int (nI (j32)))] [.int (nI (7)), .ref 16385, .int (x32_7 + (nI (1)))] _ [] rfl trivial ?_
          refine AR.ald (n := 0) (e := 7) ok_X5_scansOf_65 (by first | rfl | (simp only [nI_add, pk_mul]; first | done | rfl)) rfl (by omega) (by first | decide | omega) ?_
          refine AR.run g_X5_scansOf_66_3 72 [some (.ref 16384), some (.int (nI (c))), some (.int (nI (v))), some (.int (nI (m))), some (.int (x32_4)), some (.int (x32_5)), some (.int (x32_6)), some (.int (x32_7 + (nI (1)))), some (.int (x32_8)), some (.int (nI (j32)))] [.int (nI (8)), .ref 16385, .int (z 7), .int (x32_7 + (nI (1)))] _ [] rfl trivial ?_
          refine AR.ald (n := 0) (e := 8) ok_X5_scansOf_72 (by first | rfl | (simp only [nI_add, pk_mul]; first | done | rfl)) rfl (by omega) (by first | decide | omega) ?_
          refine AR.run g_X5_scansOf_73_3 77 [some (.ref 16384), some (.int (nI (c))), some (.int (nI (v))), some (.int (nI (m))), some (.int (x32_4)), some (.int (x32_5)), some (.int (x32_6)), some (.int (x32_7 + (nI (1)))), some (.int (x32_8)), some (.int (nI (j32)))] [.int ((z 7) + ((z 8) * x32_4)), .int (x32_7 + (nI (1)))] _ [] rfl trivial ?_
          refine AR.lt2 (tgt := 134) dc_X5_scansOf_77 (by decide) (fun c77_8 => ?_) (fun c77_8 => ?_)
          · refine AR.run g_X5_scansOf_134_2 32 [some (.ref 16384), some (.int (nI (c))), some (.int (nI (v))), some (.int (nI (m))), some (.int (x32_4)), some (.int (x32_5)), some (.int (x32_6)), some (.int (x32_7 + (nI (1)))), some (.int (x32_8)), some (.int ((nI (j32)) + (nI (1))))] [] _ [] rfl trivial ?_
            have e9 : W_5scansOf_32 c z (f32 + 1) j32 x32_4 x32_5 x32_6 x32_7 x32_8 = W_5scansOf_32 c z f32 (j32 + 1) x32_4 x32_5 x32_6 (x32_7 + (nI (1))) x32_8 := by rw [W_5scansOf_32, if_neg c40_4, if_neg c51_6, if_pos c77_8]
            rw [e9]
            exact AR.cast (L' := [some (.ref 16384), some (.int (nI (c))), some (.int (nI (v))), some (.int (nI (m))), some (.int (x32_4)), some (.int (x32_5)), some (.int (x32_6)), some (.int (x32_7 + (nI (1)))), some (.int (x32_8)), some (.int (nI (j32 + 1)))]) (by first | rfl | rw [nI_add]) rfl rfl (ih32 (j32 + 1) x32_4 x32_5 x32_6 (x32_7 + (nI (1))) x32_8 (by omega) )
          · refine AR.run g_X5_scansOf_80_10 102 [some (.ref 16384), some (.int (nI (c))), some (.int (nI (v))), some (.int (nI (m))), some (.int (x32_4)), some (.int (x32_5 + (nI (1)))), some (.int (x32_6 + (-1))), some (.int (nI (0))), some (.int (x32_8 + (nI (1)))), some (.int (nI (j32)))] [.int (nI (9)), .ref 16385, .int (x32_5 + (nI (1))), .int (x32_4)] _ [] rfl trivial ?_
            refine AR.ald (n := 0) (e := 9) ok_X5_scansOf_102 (by first | rfl | (simp only [nI_add, pk_mul]; first | done | rfl)) rfl (by omega) (by first | decide | omega) ?_
            refine AR.lt2 (tgt := 110) dc_X5_scansOf_103 (by decide) (fun c103_10 => ?_) (fun c103_10 => ?_)
            · refine AR.run g_X5_scansOf_110_7 122 [some (.ref 16384), some (.int (nI (c))), some (.int (nI (v))), some (.int (nI (m))), some (.int (x32_4 + (nI (0)))), some (.int (x32_5 + (nI (1)))), some (.int (x32_6 + (-1))), some (.int (nI (0))), some (.int (x32_8 + (nI (1)))), some (.int (nI (j32)))] [.int (nI (9)), .ref 16385, .int (x32_5 + (nI (1)))] _ [] rfl trivial ?_
              refine AR.ald (n := 0) (e := 9) ok_X5_scansOf_122 (by first | rfl | (simp only [nI_add, pk_mul]; first | done | rfl)) rfl (by omega) (by first | decide | omega) ?_
              refine AR.lt2 (tgt := 130) dc_X5_scansOf_123 (by decide) (fun c123_11 => ?_) (fun c123_11 => ?_)
              · refine AR.run g_X5_scansOf_130_4 32 [some (.ref 16384), some (.int (nI (c))), some (.int (nI (v))), some (.int (nI (m))), some (.int (x32_4 + (nI (0)))), some (.int (x32_5 + (nI (1)))), some (.int (x32_6 + (-1))), some (.int (nI (0))), some (.int (x32_8 + (nI (1)))), some (.int ((nI (j32)) + (nI (1))))] [] _ [] rfl trivial ?_
                have e12 : W_5scansOf_32 c z (f32 + 1) j32 x32_4 x32_5 x32_6 x32_7 x32_8 = W_5scansOf_32 c z f32 (j32 + 1) (x32_4 + (nI (0))) (x32_5 + (nI (1))) (x32_6 + (-1)) (nI (0)) (x32_8 + (nI (1))) := by rw [W_5scansOf_32, if_neg c40_4, if_neg c51_6, if_neg c77_8, if_pos c103_10, if_pos c123_11]
                rw [e12]
                exact AR.cast (L' := [some (.ref 16384), some (.int (nI (c))), some (.int (nI (v))), some (.int (nI (m))), some (.int (x32_4 + (nI (0)))), some (.int (x32_5 + (nI (1)))), some (.int (x32_6 + (-1))), some (.int (nI (0))), some (.int (x32_8 + (nI (1)))), some (.int (nI (j32 + 1)))]) (by first | rfl | rw [nI_add]) rfl rfl (ih32 (j32 + 1) (x32_4 + (nI (0))) (x32_5 + (nI (1))) (x32_6 + (-1)) (nI (0)) (x32_8 + (nI (1))) (by omega) )
              · refine AR.run g_X5_scansOf_126_5 32 [some (.ref 16384), some (.int (nI (c))), some (.int (nI (v))), some (.int (nI (m))), some (.int (x32_4 + (nI (0)))), some (.int (nI (0))), some (.int (x32_6 + (-1))), some (.int (nI (0))), some (.int (x32_8 + (nI (1)))), some (.int ((nI (j32)) + (nI (1))))] [] _ [] rfl trivial ?_
                have e13 : W_5scansOf_32 c z (f32 + 1) j32 x32_4 x32_5 x32_6 x32_7 x32_8 = W_5scansOf_32 c z f32 (j32 + 1) (x32_4 + (nI (0))) (nI (0)) (x32_6 + (-1)) (nI (0)) (x32_8 + (nI (1))) := by rw [W_5scansOf_32, if_neg c40_4, if_neg c51_6, if_neg c77_8, if_pos c103_10, if_neg c123_11]
                rw [e13]
                exact AR.cast (L' := [some (.ref 16384), some (.int (nI (c))), some (.int (nI (v))), some (.int (nI (m))), some (.int (x32_4 + (nI (0)))), some (.int (nI (0))), some (.int (x32_6 + (-1))), some (.int (nI (0))), some (.int (x32_8 + (nI (1)))), some (.int (nI (j32 + 1)))]) (by first | rfl | rw [nI_add]) rfl rfl (ih32 (j32 + 1) (x32_4 + (nI (0))) (nI (0)) (x32_6 + (-1)) (nI (0)) (x32_8 + (nI (1))) (by omega) )
            · refine AR.run g_X5_scansOf_106_8 122 [some (.ref 16384), some (.int (nI (c))), some (.int (nI (v))), some (.int (nI (m))), some (.int (x32_4 + (nI (1)))), some (.int (x32_5 + (nI (1)))), some (.int (x32_6 + (-1))), some (.int (nI (0))), some (.int (x32_8 + (nI (1)))), some (.int (nI (j32)))] [.int (nI (9)), .ref 16385, .int (x32_5 + (nI (1)))] _ [] rfl trivial ?_
              refine AR.ald (n := 0) (e := 9) ok_X5_scansOf_122 (by first | rfl | (simp only [nI_add, pk_mul]; first | done | rfl)) rfl (by omega) (by first | decide | omega) ?_
              refine AR.lt2 (tgt := 130) dc_X5_scansOf_123 (by decide) (fun c123_14 => ?_) (fun c123_14 => ?_)
              · refine AR.run g_X5_scansOf_130_4 32 [some (.ref 16384), some (.int (nI (c))), some (.int (nI (v))), some (.int (nI (m))), some (.int (x32_4 + (nI (1)))), some (.int (x32_5 + (nI (1)))), some (.int (x32_6 + (-1))), some (.int (nI (0))), some (.int (x32_8 + (nI (1)))), some (.int ((nI (j32)) + (nI (1))))] [] _ [] rfl trivial ?_
                have e15 : W_5scansOf_32 c z (f32 + 1) j32 x32_4 x32_5 x32_6 x32_7 x32_8 = W_5scansOf_32 c z f32 (j32 + 1) (x32_4 + (nI (1))) (x32_5 + (nI (1))) (x32_6 + (-1)) (nI (0)) (x32_8 + (nI (1))) := by rw [W_5scansOf_32, if_neg c40_4, if_neg c51_6, if_neg c77_8, if_neg c103_10, if_pos c123_14]
                rw [e15]
                exact AR.cast (L' := [some (.ref 16384), some (.int (nI (c))), some (.int (nI (v))), some (.int (nI (m))), some (.int (x32_4 + (nI (1)))), some (.int (x32_5 + (nI (1)))), some (.int (x32_6 + (-1))), some (.int (nI (0))), some (.int (x32_8 + (nI (1)))), some (.int (nI (j32 + 1)))]) (by first | rfl | rw [nI_add]) rfl rfl (ih32 (j32 + 1) (x32_4 + (nI (1))) (x32_5 + (nI (1))) (x32_6 + (-1)) (nI (0)) (x32_8 + (nI (1))) (by omega) )
              · refine AR.run g_X5_scansOf_126_5 32 [some (.ref 16384), some (.int (nI (c))), some (.int (nI (v))), some (.int (nI (m))), some (.int (x32_4 + (nI (1)))), some (.int (nI (0))), some (.int (x32_6 + (-1))), some (.int (nI (0))), some (.int (x32_8 + (nI (1)))), some (.int ((nI (j32)) + (nI (1))))] [] _ [] rfl trivial ?_
                have e16 : W_5scansOf_32 c z (f32 + 1) j32 x32_4 x32_5 x32_6 x32_7 x32_8 = W_5scansOf_32 c z f32 (j32 + 1) (x32_4 + (nI (1))) (nI (0)) (x32_6 + (-1)) (nI (0)) (x32_8 + (nI (1))) := by rw [W_5scansOf_32, if_neg c40_4, if_neg c51_6, if_neg c77_8, if_neg c103_10, if_neg c123_14]
                rw [e16]
                exact AR.cast (L' := [some (.ref 16384), some (.int (nI (c))), some (.int (nI (v))), some (.int (nI (m))), some (.int (x32_4 + (nI (1)))), some (.int (nI (0))), some (.int (x32_6 + (-1))), some (.int (nI (0))), some (.int (x32_8 + (nI (1)))), some (.int (nI (j32 + 1)))]) (by first | rfl | rw [nI_add]) rfl rfl (ih32 (j32 + 1) (x32_4 + (nI (1))) (nI (0)) (x32_6 + (-1)) (nI (0)) (x32_8 + (nI (1))) (by omega) )
  exact AR.end' rfl rfl (AR.cast rfl rfl rfl (hW m 0 (z (11 + 7 * v + 3)) (z (11 + 7 * v + 4)) ((nI ((lv z v))) - (L_5leavesWith_5 v (nI (1)) z (lv z v))) (nI (0)) (nI (0)) (by omega)))
def B_5layGains_9 (m : Nat) (nv : Nat) (nc : Nat) (z : Nat → Int32) (j2 : Nat) (j9 : Nat) (y9_ga : Nat → Int32) : (Nat → Int32) := if nc ≤ j2 then (upd y9_ga ((12 * j2) + j9) (-1)) else if nv ≤ j9 then (upd y9_ga ((12 * j2) + j9) (-1)) else if (F_5mayHave j2 j9 nv z) = 0 then (upd y9_ga ((12 * j2) + j9) (-1)) else (upd y9_ga ((12 * j2) + j9) (W_5scansOf_32 j2 z (m - 1) 0 (z (11 + 7 * j9 + 3)) (z (11 + 7 * j9 + 4)) ((nI ((lv z j9))) - (L_5leavesWith_5 j9 (nI (1)) z (lv z j9))) (nI (0)) (nI (0))))
def L_5layGains_9 (m : Nat) (nv : Nat) (nc : Nat) (z : Nat → Int32) (j2 : Nat) (y2_ga : Nat → Int32) : Nat → (Nat → Int32)
  | 0 => y2_ga
  | j + 1 => B_5layGains_9 m nv nc z j2 j (L_5layGains_9 m nv nc z j2 y2_ga  j)
def B_5layGains_2 (m : Nat) (nv : Nat) (nc : Nat) (z : Nat → Int32) (j2 : Nat) (y2_ga : Nat → Int32) : (Nat → Int32) := (L_5layGains_9 m nv nc z j2 y2_ga 12)
def L_5layGains_2 (m : Nat) (nv : Nat) (nc : Nat) (z : Nat → Int32) (ga : Nat → Int32) : Nat → (Nat → Int32)
  | 0 => ga
  | j + 1 => B_5layGains_2 m nv nc z j (L_5layGains_2 m nv nc z ga  j)
def F_5layGains_ga (m : Nat) (nv : Nat) (nc : Nat) (z : Nat → Int32) (ga : Nat → Int32) : Nat → Int32 := (L_5layGains_2 m nv nc z ga 4)
theorem g_X5_layGains_0_2 : ab_oks M_X5_layGains [(0, .iconst 0, 1, 0, 0, 0, .int (nI (0))), (1, .istore_n 2, 1, 2, 0, 0, .null)] = true := by decide +kernel
theorem g_X5_layGains_2_2 : ab_oks M_X5_layGains [(2, .iload_n 2, 1, 2, 0, 0, .null), (3, .iconst 4, 1, 0, 0, 0, .int (nI (4)))] = true := by decide +kernel
theorem dc_X5_layGains_4 : decode (AM.bytes M_X5_layGains) 4 = .ok (.if_icmp .ge 88, 3) := by decide +kernel
theorem g_X5_layGains_7_2 : ab_oks M_X5_layGains [(7, .iconst 0, 1, 0, 0, 0, .int (nI (0))), (8, .istore_n 3, 1, 3, 0, 0, .null)] = true := by decide +kernel
theorem g_X5_layGains_9_2 : ab_oks M_X5_layGains [(9, .iload_n 3, 1, 3, 0, 0, .null), (10, .bipush 12, 2, 0, 0, 0, .int (nI (12)))] = true := by decide +kernel
theorem dc_X5_layGains_12 : decode (AM.bytes M_X5_layGains) 12 = .ok (.if_icmp .ge 74, 3) := by decide +kernel
theorem g_X5_layGains_15_4 : ab_oks M_X5_layGains [(15, .iload_n 2, 1, 2, 0, 0, .null), (16, .aload_n 0, 1, 0, 0, 0, .null), (17, .getfield 7, 3, 5, 0, 936, .null), (20, .iconst 1, 1, 0, 0, 0, .int (nI (1)))] = true := by decide +kernel
theorem ok_X5_layGains_21 : ab_ok M_X5_layGains (21, .iaload, 1, 0, 0, 0, .null) = true := by decide +kernel
theorem dc_X5_layGains_22 : decode (AM.bytes M_X5_layGains) 22 = .ok (.if_icmp .ge 26, 3) := by decide +kernel
theorem g_X5_layGains_48_10 : ab_oks M_X5_layGains [(48, .iconst 0, 1, 0, 0, 0, .int (nI (0))), (49, .istore 4, 2, 4, 0, 0, .null), (51, .aload_n 0, 1, 0, 0, 0, .null), (52, .getfield 31, 3, 5, 7, 943, .null), (55, .bipush 12, 2, 0, 0, 0, .int (nI (12))), (57, .iload_n 2, 1, 2, 0, 0, .null), (58, .imul, 1, 0, 0, 0, .null), (59, .iload_n 3, 1, 3, 0, 0, .null), (60, .iadd, 1, 0, 0, 0, .null), (61, .iload 4, 2, 4, 0, 0, .null)] = true := by decide +kernel
theorem dc_X5_layGains_63 : decode (AM.bytes M_X5_layGains) 63 = .ok (.ifCond .eq 15, 3) := by decide +kernel
theorem g_X5_layGains_78_1 : ab_oks M_X5_layGains [(78, .iconst (-1), 1, 0, 0, 0, .int (-1))] = true := by decide +kernel
theorem ok_X5_layGains_79 : ab_ok M_X5_layGains (79, .iastore, 1, 0, 0, 0, .null) = true := by decide +kernel
theorem g_X5_layGains_80_2 : ab_oks M_X5_layGains [(80, .iinc 3 1, 3, 3, 0, 0, .int (nI (1))), (83, .goto (-74), 3, 9, 0, 0, .null)] = true := by decide +kernel
theorem g_X5_layGains_25_4 : ab_oks M_X5_layGains [(25, .iload_n 3, 1, 3, 0, 0, .null), (26, .aload_n 0, 1, 0, 0, 0, .null), (27, .getfield 7, 3, 5, 0, 936, .null), (30, .iconst 0, 1, 0, 0, 0, .int (nI (0)))] = true := by decide +kernel
theorem ok_X5_layGains_31 : ab_ok M_X5_layGains (31, .iaload, 1, 0, 0, 0, .null) = true := by decide +kernel
theorem dc_X5_layGains_32 : decode (AM.bytes M_X5_layGains) 32 = .ok (.if_icmp .ge 16, 3) := by decide +kernel
theorem g_X5_layGains_35_3 : ab_oks M_X5_layGains [(35, .aload_n 0, 1, 0, 0, 0, .null), (36, .iload_n 2, 1, 2, 0, 0, .null), (37, .iload_n 3, 1, 3, 0, 0, .null)] = true := by decide +kernel
theorem lk_5_206 : ab_lkV "LeafCradlesModel" 206 M_X5_mayHave 2 [1291, 1293, 80, 97, 1294] = true := by decide +kernel
theorem dc_X5_layGains_38 : decode (AM.bytes M_X5_layGains) 38 = .ok (.invokevirtual 206, 3) := by decide +kernel
theorem dc_X5_layGains_41 : decode (AM.bytes M_X5_layGains) 41 = .ok (.ifCond .eq 7, 3) := by decide +kernel
theorem g_X5_layGains_44_11 : ab_oks M_X5_layGains [(44, .iconst 1, 1, 0, 0, 0, .int (nI (1))), (45, .goto 4, 3, 49, 0, 0, .null), (49, .istore 4, 2, 4, 0, 0, .null), (51, .aload_n 0, 1, 0, 0, 0, .null), (52, .getfield 31, 3, 5, 7, 943, .null), (55, .bipush 12, 2, 0, 0, 0, .int (nI (12))), (57, .iload_n 2, 1, 2, 0, 0, .null), (58, .imul, 1, 0, 0, 0, .null), (59, .iload_n 3, 1, 3, 0, 0, .null), (60, .iadd, 1, 0, 0, 0, .null), (61, .iload 4, 2, 4, 0, 0, .null)] = true := by decide +kernel
theorem g_X5_layGains_66_6 : ab_oks M_X5_layGains [(66, .aload_n 0, 1, 0, 0, 0, .null), (67, .iload_n 2, 1, 2, 0, 0, .null), (68, .iload_n 3, 1, 3, 0, 0, .null), (69, .iload_n 1, 1, 1, 0, 0, .null), (70, .iconst 1, 1, 0, 0, 0, .int (nI (1))), (71, .isub, 1, 0, 0, 0, .null)] = true := by decide +kernel
theorem lk_5_209 : ab_lkV "LeafCradlesModel" 209 M_X5_scansOf 3 [1295, 1297, 81, 97, 1298] = true := by decide +kernel
theorem dc_X5_layGains_72 : decode (AM.bytes M_X5_layGains) 72 = .ok (.invokevirtual 209, 3) := by decide +kernel
theorem g_X5_layGains_75_1 : ab_oks M_X5_layGains [(75, .goto 4, 3, 79, 0, 0, .null)] = true := by decide +kernel
theorem g_X5_layGains_86_2 : ab_oks M_X5_layGains [(86, .iinc 2 1, 3, 2, 0, 0, .int (nI (1))), (89, .goto (-87), 3, 2, 0, 0, .null)] = true := by decide +kernel
theorem dc_X5_layGains_92 : decode (AM.bytes M_X5_layGains) 92 = .ok (.return_, 1) := by decide +kernel
set_option maxRecDepth 100000 in
set_option maxHeartbeats 4000000 in
theorem s_5layGains {E : AE} (d : Nat) (m : Nat) {nv : Nat} {nc : Nat} {nr : Nat} {ne : Nat}  {o0 a0 t0 p0 u0 l0 : List AC} {z sa ro te fr to un ga pi be : Nat → Int32} {bm en sta sv ln th : Int32} {hh : Int64} (hZ : ZI z nv nc nr ne) (hm : m ≤ 500) (hm1 : 1 ≤ m) : CT E M_X5_layGains (d + 4) [.ref 16384, .int (nI (m))] (hp o0 a0 t0 p0 (mo z sa ro te fr to un ga pi be bm en sta sv ln th hh) u0 l0) (.inl none) (hp o0 a0 t0 p0 (mo z sa ro te fr to un (F_5layGains_ga m nv nc z ga) pi be bm en sta sv ln th hh) u0 l0) 0 0 := by
  obtain ⟨⟨hnv, h12⟩, ⟨hnc, h4⟩, ⟨hnr, h3⟩, ⟨hne, h60⟩, hLV⟩ := id hZ
  refine CT.of (L := [some (.ref 16384), some (.int (nI (m))), none, none, none]) rfl rfl ?_
  refine AR.run g_X5_layGains_0_2 2 [some (.ref 16384), some (.int (nI (m))), some (.int (nI (0))), none, none] [] _ [] rfl trivial ?_
  refine AR.cast (L' := [some (.ref 16384), some (.int (nI (m))), some (.int (nI (0))), none, none]) (by first | rfl | (rw [L_5layGains_2])) rfl (by first | rfl | (rw [L_5layGains_2])) (AR.loopN 4 (fun j2 => [some (.ref 16384), some (.int (nI (m))), some (.int (nI (j2))), none, none]) (fun j2 => (hp o0 a0 t0 p0 (mo z sa ro te fr to un (L_5layGains_2 m nv nc z ga j2) pi be bm en sta sv ln th hh) u0 l0)) (fun j2 => True) (fun j2 hj2 hI2 ih2 => ?_) (fun hI2 => ?_) 0 (by omega) (by first | trivial | omega))
  · refine AR.run g_X5_layGains_2_2 4 [some (.ref 16384), some (.int (nI (m))), some (.int (nI (j2))), none, none] [.int (nI (4)), .int (nI (j2))] _ [] rfl trivial ?_
    refine AR.ge2N (tgt := 92) (a := j2) (b := 4) dc_X5_layGains_4 (by decide) (by first | rfl | (simp only [nI_add, pk_mul]; first | done | rfl)) (by first | rfl | (simp only [nI_add, pk_mul]; first | done | rfl)) (by omega) (by omega) (fun c4_1 => absurd c4_1 (by omega)) (fun c4_1 => ?_)
    refine AR.run g_X5_layGains_7_2 9 [some (.ref 16384), some (.int (nI (m))), some (.int (nI (j2))), some (.int (nI (0))), none] [] _ [] rfl trivial ?_
    refine AR.cast (L' := [some (.ref 16384), some (.int (nI (m))), some (.int (nI (j2))), some (.int (nI (0))), none]) (by first | rfl | (rw [L_5layGains_9])) rfl (by first | rfl | (rw [L_5layGains_9])) (AR.loopN 12 (fun j9 => [some (.ref 16384), some (.int (nI (m))), some (.int (nI (j2))), some (.int (nI (j9))), none]) (fun j9 => (hp o0 a0 t0 p0 (mo z sa ro te fr to un (L_5layGains_9 m nv nc z j2 (L_5layGains_2 m nv nc z ga j2) j9) pi be bm en sta sv ln th hh) u0 l0)) (fun j9 => True) (fun j9 hj9 hI9 ih9 => ?_) (fun hI9 => ?_) 0 (by omega) (by first | trivial | omega))
    · refine AR.run g_X5_layGains_9_2 12 [some (.ref 16384), some (.int (nI (m))), some (.int (nI (j2))), some (.int (nI (j9))), none] [.int (nI (12)), .int (nI (j9))] _ [] rfl trivial ?_
      refine AR.ge2N (tgt := 86) (a := j9) (b := 12) dc_X5_layGains_12 (by decide) (by first | rfl | (simp only [nI_add, pk_mul]; first | done | rfl)) (by first | rfl | (simp only [nI_add, pk_mul]; first | done | rfl)) (by omega) (by omega) (fun c12_2 => absurd c12_2 (by omega)) (fun c12_2 => ?_)
      refine AR.run g_X5_layGains_15_4 21 [some (.ref 16384), some (.int (nI (m))), some (.int (nI (j2))), some (.int (nI (j9))), none] [.int (nI (1)), .ref 16385, .int (nI (j2))] _ [] rfl trivial ?_
      refine AR.ald (n := 0) (e := 1) ok_X5_layGains_21 (by first | rfl | (simp only [nI_add, pk_mul]; first | done | rfl)) rfl (by omega) (by first | decide | omega) ?_
      refine AR.top hZ.2.1.1 ?_
      refine AR.ge2N (tgt := 48) (a := j2) (b := nc) dc_X5_layGains_22 (by decide) (by first | rfl | (simp only [nI_add, pk_mul]; first | done | rfl)) (by first | rfl | (simp only [nI_add, pk_mul]; first | done | rfl)) (by omega) (by omega) (fun c22_3 => ?_) (fun c22_3 => ?_)
      · refine AR.run g_X5_layGains_48_10 63 [some (.ref 16384), some (.int (nI (m))), some (.int (nI (j2))), some (.int (nI (j9))), some (.int (nI (0)))] [.int (nI (0)), .int (((nI (12)) * (nI (j2))) + (nI (j9))), .ref 16392] _ [] rfl trivial ?_
        refine AR.eqN (tgt := 78) (a := 0) dc_X5_layGains_63 (by decide) (by first | rfl | (simp only [nI_add, pk_mul]; first | done | rfl)) (by omega) (fun c63_4 => ?_) (fun c63_4 => absurd c63_4 (by omega))
        refine AR.run g_X5_layGains_78_1 79 [some (.ref 16384), some (.int (nI (m))), some (.int (nI (j2))), some (.int (nI (j9))), some (.int (nI (0)))] [.int (-1), .int (((nI (12)) * (nI (j2))) + (nI (j9))), .ref 16392] _ [] rfl trivial ?_
        refine AR.ast (n := 0) (e := ((12 * j2) + j9)) (h1 := (hp o0 a0 t0 p0 (mo z sa ro te fr to un (upd (L_5layGains_9 m nv nc z j2 (L_5layGains_2 m nv nc z ga j2) j9) ((12 * j2) + j9) (-1)) pi be bm en sta sv ln th hh) u0 l0)) ok_X5_layGains_79 (by first | rfl | (simp only [nI_add, pk_mul]; first | done | rfl)) rfl rfl (by omega) (by decide) rfl ?_
        refine AR.run g_X5_layGains_80_2 9 [some (.ref 16384), some (.int (nI (m))), some (.int (nI (j2))), some (.int ((nI (j9)) + (nI (1)))), some (.int (nI (0)))] [] _ [] rfl trivial ?_
        refine AR.drop (L' := [some (.ref 16384), some (.int (nI (m))), some (.int (nI (j2))), some (.int ((nI (j9)) + (nI (1)))), none]) ⟨rfl, rfl, rfl, rfl, trivial⟩ ?_
        have e5 : L_5layGains_9 m nv nc z j2 (L_5layGains_2 m nv nc z ga j2) (j9 + 1) = (upd (L_5layGains_9 m nv nc z j2 (L_5layGains_2 m nv nc z ga j2) j9) ((12 * j2) + j9) (-1)) := by rw [L_5layGains_9, B_5layGains_9, if_pos (show nc ≤ j2 from by omega)]
        exact AR.cast (L' := [some (.ref 16384), some (.int (nI (m))), some (.int (nI (j2))), some (.int (nI (j9 + 1))), none]) (by first | rfl | (rw [nI_add]; done) | (rw [nI_add]; rfl)) rfl (by rw [e5]) (ih9 (by first | trivial | omega))
      · refine AR.run g_X5_layGains_25_4 31 [some (.ref 16384), some (.int (nI (m))), some (.int (nI (j2))), some (.int (nI (j9))), none] [.int (nI (0)), .ref 16385, .int (nI (j9))] _ [] rfl trivial ?_
        refine AR.ald (n := 0) (e := 0) ok_X5_layGains_31 (by first | rfl | (simp only [nI_add, pk_mul]; first | done | rfl)) rfl (by omega) (by first | decide | omega) ?_
        refine AR.top hZ.1.1 ?_
        refine AR.ge2N (tgt := 48) (a := j9) (b := nv) dc_X5_layGains_32 (by decide) (by first | rfl | (simp only [nI_add, pk_mul]; first | done | rfl)) (by first | rfl | (simp only [nI_add, pk_mul]; first | done | rfl)) (by omega) (by omega) (fun c32_6 => ?_) (fun c32_6 => ?_)
        · refine AR.run g_X5_layGains_48_10 63 [some (.ref 16384), some (.int (nI (m))), some (.int (nI (j2))), some (.int (nI (j9))), some (.int (nI (0)))] [.int (nI (0)), .int (((nI (12)) * (nI (j2))) + (nI (j9))), .ref 16392] _ [] rfl trivial ?_
          refine AR.eqN (tgt := 78) (a := 0) dc_X5_layGains_63 (by decide) (by first | rfl | (simp only [nI_add, pk_mul]; first | done | rfl)) (by omega) (fun c63_7 => ?_) (fun c63_7 => absurd c63_7 (by omega))
          refine AR.run g_X5_layGains_78_1 79 [some (.ref 16384), some (.int (nI (m))), some (.int (nI (j2))), some (.int (nI (j9))), some (.int (nI (0)))] [.int (-1), .int (((nI (12)) * (nI (j2))) + (nI (j9))), .ref 16392] _ [] rfl trivial ?_
          refine AR.ast (n := 0) (e := ((12 * j2) + j9)) (h1 := (hp o0 a0 t0 p0 (mo z sa ro te fr to un (upd (L_5layGains_9 m nv nc z j2 (L_5layGains_2 m nv nc z ga j2) j9) ((12 * j2) + j9) (-1)) pi be bm en sta sv ln th hh) u0 l0)) ok_X5_layGains_79 (by first | rfl | (simp only [nI_add, pk_mul]; first | done | rfl)) rfl rfl (by omega) (by decide) rfl ?_
          refine AR.run g_X5_layGains_80_2 9 [some (.ref 16384), some (.int (nI (m))), some (.int (nI (j2))), some (.int ((nI (j9)) + (nI (1)))), some (.int (nI (0)))] [] _ [] rfl trivial ?_
          refine AR.drop (L' := [some (.ref 16384), some (.int (nI (m))), some (.int (nI (j2))), some (.int ((nI (j9)) + (nI (1)))), none]) ⟨rfl, rfl, rfl, rfl, trivial⟩ ?_
          have e8 : L_5layGains_9 m nv nc z j2 (L_5layGains_2 m nv nc z ga j2) (j9 + 1) = (upd (L_5layGains_9 m nv nc z j2 (L_5layGains_2 m nv nc z ga j2) j9) ((12 * j2) + j9) (-1)) := by rw [L_5layGains_9, B_5layGains_9, if_neg (show ¬ (nc ≤ j2) from by omega), if_pos (show nv ≤ j9 from by omega)]
          exact AR.cast (L' := [some (.ref 16384), some (.int (nI (m))), some (.int (nI (j2))), some (.int (nI (j9 + 1))), none]) (by first | rfl | (rw [nI_add]; done) | (rw [nI_add]; rfl)) rfl (by rw [e8]) (ih9 (by first | trivial | omega))
        · refine AR.run g_X5_layGains_35_3 38 [some (.ref 16384), some (.int (nI (m))), some (.int (nI (j2))), some (.int (nI (j9))), none] [.int (nI (j9)), .int (nI (j2)), .ref 16384] _ [] rfl trivial ?_
          refine AR.callV1 (16384) [.int (nI (j2)), .int (nI (j9))] [] lk_5_206 dc_X5_layGains_38 rfl rfl (s_5mayHave _ j2 j9 (by assumption) (by omega) (by omega)) (by first | rfl | (simp only [nI_add, pk_mul]; first | done | rfl)) rfl ?_
          refine AR.eq (tgt := 48) dc_X5_layGains_41 (by decide) (fun c41_9 => ?_) (fun c41_9 => ?_)
          · refine AR.run g_X5_layGains_48_10 63 [some (.ref 16384), some (.int (nI (m))), some (.int (nI (j2))), some (.int (nI (j9))), some (.int (nI (0)))] [.int (nI (0)), .int (((nI (12)) * (nI (j2))) + (nI (j9))), .ref 16392] _ [] rfl trivial ?_
            refine AR.eqN (tgt := 78) (a := 0) dc_X5_layGains_63 (by decide) (by first | rfl | (simp only [nI_add, pk_mul]; first | done | rfl)) (by omega) (fun c63_10 => ?_) (fun c63_10 => absurd c63_10 (by omega))
            refine AR.run g_X5_layGains_78_1 79 [some (.ref 16384), some (.int (nI (m))), some (.int (nI (j2))), some (.int (nI (j9))), some (.int (nI (0)))] [.int (-1), .int (((nI (12)) * (nI (j2))) + (nI (j9))), .ref 16392] _ [] rfl trivial ?_
            refine AR.ast (n := 0) (e := ((12 * j2) + j9)) (h1 := (hp o0 a0 t0 p0 (mo z sa ro te fr to un (upd (L_5layGains_9 m nv nc z j2 (L_5layGains_2 m nv nc z ga j2) j9) ((12 * j2) + j9) (-1)) pi be bm en sta sv ln th hh) u0 l0)) ok_X5_layGains_79 (by first | rfl | (simp only [nI_add, pk_mul]; first | done | rfl)) rfl rfl (by omega) (by decide) rfl ?_
            refine AR.run g_X5_layGains_80_2 9 [some (.ref 16384), some (.int (nI (m))), some (.int (nI (j2))), some (.int ((nI (j9)) + (nI (1)))), some (.int (nI (0)))] [] _ [] rfl trivial ?_
            refine AR.drop (L' := [some (.ref 16384), some (.int (nI (m))), some (.int (nI (j2))), some (.int ((nI (j9)) + (nI (1)))), none]) ⟨rfl, rfl, rfl, rfl, trivial⟩ ?_
            have e11 : L_5layGains_9 m nv nc z j2 (L_5layGains_2 m nv nc z ga j2) (j9 + 1) = (upd (L_5layGains_9 m nv nc z j2 (L_5layGains_2 m nv nc z ga j2) j9) ((12 * j2) + j9) (-1)) := by rw [L_5layGains_9, B_5layGains_9, if_neg (show ¬ (nc ≤ j2) from by omega), if_neg (show ¬ (nv ≤ j9) from by omega), if_pos c41_9]
            exact AR.cast (L' := [some (.ref 16384), some (.int (nI (m))), some (.int (nI (j2))), some (.int (nI (j9 + 1))), none]) (by first | rfl | (rw [nI_add]; done) | (rw [nI_add]; rfl)) rfl (by rw [e11]) (ih9 (by first | trivial | omega))
          · refine AR.run g_X5_layGains_44_11 63 [some (.ref 16384), some (.int (nI (m))), some (.int (nI (j2))), some (.int (nI (j9))), some (.int (nI (1)))] [.int (nI (1)), .int (((nI (12)) * (nI (j2))) + (nI (j9))), .ref 16392] _ [] rfl trivial ?_
            refine AR.eqN (tgt := 78) (a := 1) dc_X5_layGains_63 (by decide) (by first | rfl | (simp only [nI_add, pk_mul]; first | done | rfl)) (by omega) (fun c63_12 => absurd c63_12 (by omega)) (fun c63_12 => ?_)
            refine AR.run g_X5_layGains_66_6 72 [some (.ref 16384), some (.int (nI (m))), some (.int (nI (j2))), some (.int (nI (j9))), some (.int (nI (1)))] [.int ((nI (m)) - (nI (1))), .int (nI (j9)), .int (nI (j2)), .ref 16384, .int (((nI (12)) * (nI (j2))) + (nI (j9))), .ref 16392] _ [] rfl trivial ?_
            refine AR.cast (L' := [some (.ref 16384), some (.int (nI (m))), some (.int (nI (j2))), some (.int (nI (j9))), some (.int (nI (1)))]) (st' := [.int (nI ((m - 1))), .int (nI (j9)), .int (nI (j2)), .ref 16384, .int (((nI (12)) * (nI (j2))) + (nI (j9))), .ref 16392]) rfl (by rw [pk_sub (by omega)]) rfl ?_
            refine AR.callV1 (16384) [.int (nI (j2)), .int (nI (j9)), .int (nI ((m - 1)))] [.int (nI (((12 * j2) + j9))), .ref 16392] lk_5_209 dc_X5_layGains_72 rfl rfl (s_5scansOf _ j2 j9 (m - 1) (by assumption) (by omega) (by omega) (by omega)) (by first | rfl | (simp only [nI_add, pk_mul]; first | done | rfl)) rfl ?_
            refine AR.run g_X5_layGains_75_1 79 [some (.ref 16384), some (.int (nI (m))), some (.int (nI (j2))), some (.int (nI (j9))), some (.int (nI (1)))] [.int (W_5scansOf_32 j2 z (m - 1) 0 (z (11 + 7 * j9 + 3)) (z (11 + 7 * j9 + 4)) ((nI ((lv z j9))) - (L_5leavesWith_5 j9 (nI (1)) z (lv z j9))) (nI (0)) (nI (0))), .int (nI (((12 * j2) + j9))), .ref 16392] _ [] rfl trivial ?_
            refine AR.ast (n := 0) (e := ((12 * j2) + j9)) (h1 := (hp o0 a0 t0 p0 (mo z sa ro te fr to un (upd (L_5layGains_9 m nv nc z j2 (L_5layGains_2 m nv nc z ga j2) j9) ((12 * j2) + j9) (W_5scansOf_32 j2 z (m - 1) 0 (z (11 + 7 * j9 + 3)) (z (11 + 7 * j9 + 4)) ((nI ((lv z j9))) - (L_5leavesWith_5 j9 (nI (1)) z (lv z j9))) (nI (0)) (nI (0)))) pi be bm en sta sv ln th hh) u0 l0)) ok_X5_layGains_79 (by first | rfl | (simp only [nI_add, pk_mul]; first | done | rfl)) rfl rfl (by omega) (by decide) rfl ?_
            refine AR.run g_X5_layGains_80_2 9 [some (.ref 16384), some (.int (nI (m))), some (.int (nI (j2))), some (.int ((nI (j9)) + (nI (1)))), some (.int (nI (1)))] [] _ [] rfl trivial ?_
            refine AR.drop (L' := [some (.ref 16384), some (.int (nI (m))), some (.int (nI (j2))), some (.int ((nI (j9)) + (nI (1)))), none]) ⟨rfl, rfl, rfl, rfl, trivial⟩ ?_
            have e13 : L_5layGains_9 m nv nc z j2 (L_5layGains_2 m nv nc z ga j2) (j9 + 1) = (upd (L_5layGains_9 m nv nc z j2 (L_5layGains_2 m nv nc z ga j2) j9) ((12 * j2) + j9) (W_5scansOf_32 j2 z (m - 1) 0 (z (11 + 7 * j9 + 3)) (z (11 + 7 * j9 + 4)) ((nI ((lv z j9))) - (L_5leavesWith_5 j9 (nI (1)) z (lv z j9))) (nI (0)) (nI (0)))) := by rw [L_5layGains_9, B_5layGains_9, if_neg (show ¬ (nc ≤ j2) from by omega), if_neg (show ¬ (nv ≤ j9) from by omega), if_neg c41_9]
            exact AR.cast (L' := [some (.ref 16384), some (.int (nI (m))), some (.int (nI (j2))), some (.int (nI (j9 + 1))), none]) (by first | rfl | (rw [nI_add]; done) | (rw [nI_add]; rfl)) rfl (by rw [e13]) (ih9 (by first | trivial | omega))
    · refine AR.run g_X5_layGains_9_2 12 [some (.ref 16384), some (.int (nI (m))), some (.int (nI (j2))), some (.int (nI (12))), none] [.int (nI (12)), .int (nI (12))] _ [] rfl trivial ?_
      refine AR.ge2N (tgt := 86) (a := 12) (b := 12) dc_X5_layGains_12 (by decide) (by first | rfl | (simp only [nI_add, pk_mul]; first | done | rfl)) (by first | rfl | (simp only [nI_add, pk_mul]; first | done | rfl)) (by omega) (by omega) (fun c12_14 => ?_) (fun c12_14 => absurd c12_14 (by omega))
      refine AR.run g_X5_layGains_86_2 2 [some (.ref 16384), some (.int (nI (m))), some (.int ((nI (j2)) + (nI (1)))), some (.int (nI (12))), none] [] _ [] rfl trivial ?_
      refine AR.drop (L' := [some (.ref 16384), some (.int (nI (m))), some (.int ((nI (j2)) + (nI (1)))), none, none]) ⟨rfl, rfl, rfl, trivial⟩ ?_
      have e15 : L_5layGains_2 m nv nc z ga (j2 + 1) = (L_5layGains_9 m nv nc z j2 (L_5layGains_2 m nv nc z ga j2) 12) := by rw [L_5layGains_2, B_5layGains_2]
      exact AR.cast (L' := [some (.ref 16384), some (.int (nI (m))), some (.int (nI (j2 + 1))), none, none]) (by first | rfl | (rw [nI_add]; done) | (rw [nI_add]; rfl)) rfl (by rw [e15]) (ih2 (by first | trivial | omega))
  · refine AR.run g_X5_layGains_2_2 4 [some (.ref 16384), some (.int (nI (m))), some (.int (nI (4))), none, none] [.int (nI (4)), .int (nI (4))] _ [] rfl trivial ?_
    refine AR.ge2N (tgt := 92) (a := 4) (b := 4) dc_X5_layGains_4 (by decide) (by first | rfl | (simp only [nI_add, pk_mul]; first | done | rfl)) (by first | rfl | (simp only [nI_add, pk_mul]; first | done | rfl)) (by omega) (by omega) (fun c4_16 => ?_) (fun c4_16 => absurd c4_16 (by omega))
    have e17_0 : F_5layGains_ga m nv nc z ga = (L_5layGains_2 m nv nc z ga 4) := by rw [F_5layGains_ga]
    exact AR.retV dc_X5_layGains_92 rfl (by rw [e17_0])
