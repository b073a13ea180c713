def lsS : Nat → Int32 := fun i => if i = 0 then nI 1 else if i = 1 then nI 0 else if i = 2 then nI 1 else nI 0
def gsS : Nat → Int32 := fun i => if i = 0 then nI 9 else if i = 1 then nI 9 else if i = 2 then nI 200 else nI 5
/-- the law's script and the settings' limits -/
def ol_ (sx : Nat → Int32) (sl : Nat) (ls gs : Nat → Int32) : List AC := [.inl (.inl (sl, sx)), .inl (.inl (4, ls)), .inl (.inl (4, gs))]
theorem wi_ok {v a b : Int32} (h : ¬ wi v a b = 0) : a ≤ v ∧ v ≤ b := by
  unfold wi at h
  split at h
  · assumption
  · exact absurd rfl h
theorem wi_bad {v a b : Int32} (h : wi v a b = 0) : v < a ∨ b < v := by
  unfold wi at h
  split at h
  · exact absurd h (by decide)
  · rename_i h1
    by_cases h2 : a ≤ v
    · exact Or.inr (Int32.not_le.mp (fun h3 => h1 ⟨h2, h3⟩))
    · exact Or.inl (Int32.not_le.mp h2)
theorem wi_in {k a b : Nat} (h1 : a ≤ k) (h2 : k ≤ b) (hb : b < 2147483648) : ¬ wi (nI k) (nI a) (nI b) = 0 := by
  rw [wiN_t h1 h2 hb]
  decide
theorem ix_bad {x : Int32} {n : Nat} (hn : n < 2147483648) (h : ¬ ∃ q9 : Nat, q9 < n ∧ x = nI q9) : x < 0 ∨ ¬ x < nI n := by
  rcases pk_ix x hn with h1 | h1 | h1
  · exact Or.inl h1
  · exact Or.inr (Int32.not_lt.mpr h1)
  · exact absurd h1 h
theorem vf2 {v : Nat} {T : Nat → Nat → Int32} (h : HLv T v) : F_0volumeFact v 2 T = nI (lt T v) := by
  unfold F_0volumeFact
  rw [if_neg (by decide), if_neg (by decide), if_neg (by decide), if_neg (by decide), if_neg (by decide)]
  exact h.1
theorem g_X4_requireRange_0_2 : ab_oks M_X4_requireRange [(0, .iload_n 0, 1, 0, 0, 0, .null), (1, .iload_n 1, 1, 1, 0, 0, .null)] = true := by decide +kernel
theorem dc_X4_requireRange_2 : decode (AM.bytes M_X4_requireRange) 2 = .ok (.if_icmp .lt 8, 3) := by decide +kernel
theorem g_X4_requireRange_5_2 : ab_oks M_X4_requireRange [(5, .iload_n 0, 1, 0, 0, 0, .null), (6, .iload_n 2, 1, 2, 0, 0, .null)] = true := by decide +kernel
theorem dc_X4_requireRange_7 : decode (AM.bytes M_X4_requireRange) 7 = .ok (.if_icmp .le 13, 3) := by decide +kernel
theorem dc_X4_requireRange_20 : decode (AM.bytes M_X4_requireRange) 20 = .ok (.return_, 1) := by decide +kernel
set_option maxRecDepth 100000 in
set_option maxHeartbeats 4000000 in
theorem s_4requireRangeO {E : AE} (d : Nat) (v : Int32) (a : Int32) (b : Int32)  {h : AH} (h9 : ¬ wi v a b = 0) : CT E M_X4_requireRange d [.int (v), .int (a), .int (b)] h (.inl none) h 0 0 := by
  obtain ⟨ha, hb⟩ := wi_ok h9
  refine CT.of (L := [some (.int (v)), some (.int (a)), some (.int (b))]) rfl rfl ?_
  refine AR.run g_X4_requireRange_0_2 2 [some (.int (v)), some (.int (a)), some (.int (b))] [.int (a), .int (v)] _ [] rfl trivial ?_
  refine AR.lt2 (tgt := 10) dc_X4_requireRange_2 (by decide) (fun c2_1 => absurd c2_1 (Int32.not_lt.mpr ha)) (fun c2_1 => ?_)
  refine AR.run g_X4_requireRange_5_2 7 [some (.int (v)), some (.int (a)), some (.int (b))] [.int (b), .int (v)] _ [] rfl trivial ?_
  refine AR.le2 (tgt := 20) dc_X4_requireRange_7 (by decide) (fun c7_2 => ?_) (fun c7_2 => absurd c7_2 (fun q => q hb))
  exact AR.retV dc_X4_requireRange_20 rfl rfl
theorem dc_X4_requireRange_10 : decode (AM.bytes M_X4_requireRange) 10 = .ok (.new 139, 3) := by decide +kernel
theorem dc_X4_requireRange_13 : decode (AM.bytes M_X4_requireRange) 13 = .ok (.dup, 1) := by decide +kernel
theorem dc_X4_requireRange_14 : decode (AM.bytes M_X4_requireRange) 14 = .ok (.ldc 252, 2) := by decide +kernel
theorem dc_X4_requireRange_16 : decode (AM.bytes M_X4_requireRange) 16 = .ok (.invokespecial 143, 3) := by decide +kernel
theorem dc_X4_requireRange_19 : decode (AM.bytes M_X4_requireRange) 19 = .ok (.athrow, 1) := by decide +kernel
theorem th_139_143a : ab_ats [188, 39] [.classLink "LeafCradles" 139 "java/lang/IllegalArgumentException", .initialized "java/lang/IllegalArgumentException"] = true := by decide +kernel
theorem th_139_143b : vx_ot (.classLink "LeafCradles" 139 "java/lang/IllegalArgumentException") = true := by decide +kernel
set_option maxRecDepth 100000 in
set_option maxHeartbeats 4000000 in
theorem s_4requireRangeB {E : AE} (d : Nat) (v : Int32) (a : Int32) (b : Int32)  {h : AH} (h9 : wi v a b = 0) (hex : E.ex = false) : CT E M_X4_requireRange d [.int (v), .int (a), .int (b)] h (.inr "java/lang/IllegalArgumentException") h 1 6 := by
  have hb := wi_bad h9
  refine CT.of (L := [some (.int (v)), some (.int (a)), some (.int (b))]) rfl rfl ?_
  refine AR.run g_X4_requireRange_0_2 2 [some (.int (v)), some (.int (a)), some (.int (b))] [.int (a), .int (v)] _ [] rfl trivial ?_
  refine AR.lt2 (tgt := 10) dc_X4_requireRange_2 (by decide) (fun c2_1 => ?_) (fun c2_1 => ?_)
  · exact AR.room (by omega) (by omega) (AR.throwS (text := "an argument is out of range") (by assumption) rfl rfl ab_thrOk_143 th_139_143a th_139_143b (by simp [ab_strs]) dc_X4_requireRange_10 dc_X4_requireRange_13 dc_X4_requireRange_14 dc_X4_requireRange_16 dc_X4_requireRange_19 rfl)
  · refine AR.run g_X4_requireRange_5_2 7 [some (.int (v)), some (.int (a)), some (.int (b))] [.int (b), .int (v)] _ [] rfl trivial ?_
    refine AR.le2 (tgt := 20) dc_X4_requireRange_7 (by decide) (fun c7_2 => absurd c7_2 (by rcases hb with q | q; exact absurd q (by assumption); exact Int32.not_le.mpr q)) (fun c7_2 => ?_)
    exact AR.room (by omega) (by omega) (AR.throwS (text := "an argument is out of range") (by assumption) rfl rfl ab_thrOk_143 th_139_143a th_139_143b (by simp [ab_strs]) dc_X4_requireRange_10 dc_X4_requireRange_13 dc_X4_requireRange_14 dc_X4_requireRange_16 dc_X4_requireRange_19 rfl)
theorem g_X4_requireIndex_0_1 : ab_oks M_X4_requireIndex [(0, .iload_n 0, 1, 0, 0, 0, .null)] = true := by decide +kernel
theorem dc_X4_requireIndex_1 : decode (AM.bytes M_X4_requireIndex) 1 = .ok (.ifCond .lt 8, 3) := by decide +kernel
theorem g_X4_requireIndex_4_2 : ab_oks M_X4_requireIndex [(4, .iload_n 0, 1, 0, 0, 0, .null), (5, .iload_n 1, 1, 1, 0, 0, .null)] = true := by decide +kernel
theorem dc_X4_requireIndex_6 : decode (AM.bytes M_X4_requireIndex) 6 = .ok (.if_icmp .lt 14, 3) := by decide +kernel
theorem dc_X4_requireIndex_20 : decode (AM.bytes M_X4_requireIndex) 20 = .ok (.return_, 1) := by decide +kernel
set_option maxRecDepth 100000 in
set_option maxHeartbeats 4000000 in
theorem s_4requireIndexO {E : AE} (d : Nat) (k : Nat) (n : Nat)  {h : AH} (hk : k < n) (hn : n < 1000) : CT E M_X4_requireIndex d [.int (nI (k)), .int (nI (n))] h (.inl none) h 0 0 := by
  refine CT.of (L := [some (.int (nI (k))), some (.int (nI (n)))]) rfl rfl ?_
  refine AR.run g_X4_requireIndex_0_1 1 [some (.int (nI (k))), some (.int (nI (n)))] [.int (nI (k))] _ [] rfl trivial ?_
  refine AR.ltN (tgt := 9) (a := k) dc_X4_requireIndex_1 (by decide) (by first | rfl | (simp only [nI_add, pk_mul]; first | done | rfl)) (by omega) (fun c1_1 => absurd c1_1 (fun q => q)) (fun c1_1 => ?_)
  refine AR.run g_X4_requireIndex_4_2 6 [some (.int (nI (k))), some (.int (nI (n)))] [.int (nI (n)), .int (nI (k))] _ [] rfl trivial ?_
  refine AR.lt2N (tgt := 20) (a := k) (b := n) dc_X4_requireIndex_6 (by decide) (by first | rfl | (simp only [nI_add, pk_mul]; first | done | rfl)) (by first | rfl | (simp only [nI_add, pk_mul]; first | done | rfl)) (by omega) (by omega) (fun c6_2 => ?_) (fun c6_2 => absurd c6_2 (by omega))
  exact AR.retV dc_X4_requireIndex_20 rfl rfl
theorem dc_X4_requireIndex_9 : decode (AM.bytes M_X4_requireIndex) 9 = .ok (.new 254, 3) := by decide +kernel
theorem dc_X4_requireIndex_12 : decode (AM.bytes M_X4_requireIndex) 12 = .ok (.dup, 1) := by decide +kernel
theorem dc_X4_requireIndex_13 : decode (AM.bytes M_X4_requireIndex) 13 = .ok (.ldc_w 256, 3) := by decide +kernel
theorem dc_X4_requireIndex_16 : decode (AM.bytes M_X4_requireIndex) 16 = .ok (.invokespecial 258, 3) := by decide +kernel
theorem dc_X4_requireIndex_19 : decode (AM.bytes M_X4_requireIndex) 19 = .ok (.athrow, 1) := by decide +kernel
theorem th_254_258a : ab_ats [329, 38] [.classLink "LeafCradles" 254 "java/lang/IndexOutOfBoundsException", .initialized "java/lang/IndexOutOfBoundsException"] = true := by decide +kernel
theorem th_254_258b : vx_ot (.classLink "LeafCradles" 254 "java/lang/IndexOutOfBoundsException") = true := by decide +kernel
set_option maxRecDepth 100000 in
set_option maxHeartbeats 4000000 in
theorem s_4requireIndexB {E : AE} (d : Nat) (x : Int32) (n : Nat)  {h : AH} (hbad : ¬ ∃ q9 : Nat, q9 < n ∧ x = nI q9) (hn : n < 1000) (hex : E.ex = false) : CT E M_X4_requireIndex d [.int (x), .int (nI (n))] h (.inr "java/lang/IndexOutOfBoundsException") h 1 6 := by
  have hb := ix_bad (by omega) hbad
  refine CT.of (L := [some (.int (x)), some (.int (nI (n)))]) rfl rfl ?_
  refine AR.run g_X4_requireIndex_0_1 1 [some (.int (x)), some (.int (nI (n)))] [.int (x)] _ [] rfl trivial ?_
  refine AR.lt (tgt := 9) dc_X4_requireIndex_1 (by decide) (fun c1_1 => ?_) (fun c1_1 => ?_)
  · exact AR.room (by omega) (by omega) (AR.throwSW (text := "there is none with this number") (by assumption) rfl rfl ab_thrOk_258 th_254_258a th_254_258b (by simp [ab_strs]) dc_X4_requireIndex_9 dc_X4_requireIndex_12 dc_X4_requireIndex_13 dc_X4_requireIndex_16 dc_X4_requireIndex_19 rfl)
  · refine AR.run g_X4_requireIndex_4_2 6 [some (.int (x)), some (.int (nI (n)))] [.int (nI (n)), .int (x)] _ [] rfl trivial ?_
    refine AR.lt2 (tgt := 20) dc_X4_requireIndex_6 (by decide) (fun c6_2 => absurd c6_2 (by rcases hb with q | q; exact absurd q (by assumption); exact q)) (fun c6_2 => ?_)
    exact AR.room (by omega) (by omega) (AR.throwSW (text := "there is none with this number") (by assumption) rfl rfl ab_thrOk_258 th_254_258a th_254_258b (by simp [ab_strs]) dc_X4_requireIndex_9 dc_X4_requireIndex_12 dc_X4_requireIndex_13 dc_X4_requireIndex_16 dc_X4_requireIndex_19 rfl)
theorem g_X4_requireVolume_0_4 : ab_oks M_X4_requireVolume [(0, .iload_n 1, 1, 1, 0, 0, .null), (1, .aload_n 0, 1, 0, 0, 0, .null), (2, .getfield 10, 3, 4, 0, 171, .null), (5, .iconst 0, 1, 0, 0, 0, .int (nI (0)))] = true := by decide +kernel
theorem lk_4_34 : ab_lkV "LeafCradles" 34 M_X0_number 1 [325, 265, 266, 30, 267] = true := by decide +kernel
theorem dc_X4_requireVolume_6 : decode (AM.bytes M_X4_requireVolume) 6 = .ok (.invokevirtual 34, 3) := by decide +kernel
theorem lk_4_64 : ab_lkS "LeafCradles" 64 M_X4_requireIndex 2 [326, 327, 29, 328] = true := by decide +kernel
theorem dc_X4_requireVolume_9 : decode (AM.bytes M_X4_requireVolume) 9 = .ok (.invokestatic 64, 3) := by decide +kernel
theorem dc_X4_requireVolume_12 : decode (AM.bytes M_X4_requireVolume) 12 = .ok (.return_, 1) := by decide +kernel
set_option maxRecDepth 100000 in
set_option maxHeartbeats 4000000 in
theorem s_4requireVolumeO {E : AE} (d : Nat) (k : Nat) {nv : Nat} {nc : Nat} {nr : Nat} {ne : Nat}  {o0 m0 u0 l0 : List AC} {T K : Nat → Nat → Int32} {os sc : Int32} {tc tp : Nat → Int32} {tl_ tn trd tv tdg tf tla : Int32} {pg ph pc : Nat → Int32} {pm : Int32} (hT : TI T nv nc nr ne) (hk : k < nv) : CT E M_X4_requireVolume (d + 2) [.ref 4096, .int (nI (k))] (hp o0 (ar T K os sc) (te_ tc tp tl_ tn trd tv tdg tf tla) (pl pg ph pc pm) m0 u0 l0) (.inl none) (hp o0 (ar T K os sc) (te_ tc tp tl_ tn trd tv tdg tf tla) (pl pg ph pc pm) m0 u0 l0) 0 0 := by
  obtain ⟨⟨hnv, h12⟩, ⟨hnc, h4⟩, ⟨hnr, h3⟩, ⟨hne, h60⟩, hLT, hHT⟩ := id hT
  refine CT.of (L := [some (.ref 4096), some (.int (nI (k)))]) rfl rfl ?_
  refine AR.run g_X4_requireVolume_0_4 6 [some (.ref 4096), some (.int (nI (k)))] [.int (nI (0)), .ref 4097, .int (nI (k))] _ [] rfl trivial ?_
  refine AR.callV1 (4097) [.int (nI (0))] [.int (nI (k))] lk_4_34 dc_X4_requireVolume_6 rfl rfl (s_0number _ 0 (by omega)) (by first | rfl | (simp only [nI_add, pk_mul]; first | done | rfl)) rfl ?_
  refine AR.top hT.1.1 ?_
  refine AR.callS0 [.int (nI (k)), .int (nI (nv))] [] lk_4_64 dc_X4_requireVolume_9 (s_4requireIndexO _ k nv (by omega) (by omega)) (by first | rfl | (simp only [nI_add, pk_mul]; first | done | rfl)) rfl ?_
  exact AR.retV dc_X4_requireVolume_12 rfl rfl
set_option maxRecDepth 100000 in
set_option maxHeartbeats 4000000 in
theorem s_4requireVolumeB {E : AE} (d : Nat) (x : Int32) {nv : Nat} {nc : Nat} {nr : Nat} {ne : Nat}  {o0 m0 u0 l0 : List AC} {T K : Nat → Nat → Int32} {os sc : Int32} {tc tp : Nat → Int32} {tl_ tn trd tv tdg tf tla : Int32} {pg ph pc : Nat → Int32} {pm : Int32} (hT : TI T nv nc nr ne) (hbad : ¬ ∃ q9 : Nat, q9 < nv ∧ x = nI q9) (hex : E.ex = false) : CT E M_X4_requireVolume (d + 2) [.ref 4096, .int (x)] (hp o0 (ar T K os sc) (te_ tc tp tl_ tn trd tv tdg tf tla) (pl pg ph pc pm) m0 u0 l0) (.inr "java/lang/IndexOutOfBoundsException") (hp o0 (ar T K os sc) (te_ tc tp tl_ tn trd tv tdg tf tla) (pl pg ph pc pm) m0 u0 l0) 1 6 := by
  obtain ⟨⟨hnv, h12⟩, ⟨hnc, h4⟩, ⟨hnr, h3⟩, ⟨hne, h60⟩, hLT, hHT⟩ := id hT
  refine CT.of (L := [some (.ref 4096), some (.int (x))]) rfl rfl ?_
  refine AR.run g_X4_requireVolume_0_4 6 [some (.ref 4096), some (.int (x))] [.int (nI (0)), .ref 4097, .int (x)] _ [] rfl trivial ?_
  refine AR.callV1 (4097) [.int (nI (0))] [.int (x)] lk_4_34 dc_X4_requireVolume_6 rfl rfl (s_0number _ 0 (by omega)) (by first | rfl | (simp only [nI_add, pk_mul]; first | done | rfl)) rfl ?_
  refine AR.top hT.1.1 ?_
  exact AR.end' rfl rfl (AR.room (by omega) (by omega) (AR.callSx [.int (x), .int (nI (nv))] [] lk_4_64 dc_X4_requireVolume_9 (s_4requireIndexB _ x nv (by assumption) (by omega) (by assumption)) (by first | rfl | (simp only [nI_add, pk_mul]; first | done | rfl)) rfl rfl))
theorem g_X4_requireCradle_0_4 : ab_oks M_X4_requireCradle [(0, .iload_n 1, 1, 1, 0, 0, .null), (1, .aload_n 0, 1, 0, 0, 0, .null), (2, .getfield 10, 3, 4, 0, 171, .null), (5, .iconst 1, 1, 0, 0, 0, .int (nI (1)))] = true := by decide +kernel
theorem dc_X4_requireCradle_6 : decode (AM.bytes M_X4_requireCradle) 6 = .ok (.invokevirtual 34, 3) := by decide +kernel
theorem dc_X4_requireCradle_9 : decode (AM.bytes M_X4_requireCradle) 9 = .ok (.invokestatic 64, 3) := by decide +kernel
theorem dc_X4_requireCradle_12 : decode (AM.bytes M_X4_requireCradle) 12 = .ok (.return_, 1) := by decide +kernel
set_option maxRecDepth 100000 in
set_option maxHeartbeats 4000000 in
theorem s_4requireCradleO {E : AE} (d : Nat) (k : Nat) {nv : Nat} {nc : Nat} {nr : Nat} {ne : Nat}  {o0 m0 u0 l0 : List AC} {T K : Nat → Nat → Int32} {os sc : Int32} {tc tp : Nat → Int32} {tl_ tn trd tv tdg tf tla : Int32} {pg ph pc : Nat → Int32} {pm : Int32} (hT : TI T nv nc nr ne) (hk : k < nc) : CT E M_X4_requireCradle (d + 2) [.ref 4096, .int (nI (k))] (hp o0 (ar T K os sc) (te_ tc tp tl_ tn trd tv tdg tf tla) (pl pg ph pc pm) m0 u0 l0) (.inl none) (hp o0 (ar T K os sc) (te_ tc tp tl_ tn trd tv tdg tf tla) (pl pg ph pc pm) m0 u0 l0) 0 0 := by
  obtain ⟨⟨hnv, h12⟩, ⟨hnc, h4⟩, ⟨hnr, h3⟩, ⟨hne, h60⟩, hLT, hHT⟩ := id hT
  refine CT.of (L := [some (.ref 4096), some (.int (nI (k)))]) rfl rfl ?_
  refine AR.run g_X4_requireCradle_0_4 6 [some (.ref 4096), some (.int (nI (k)))] [.int (nI (1)), .ref 4097, .int (nI (k))] _ [] rfl trivial ?_
  refine AR.callV1 (4097) [.int (nI (1))] [.int (nI (k))] lk_4_34 dc_X4_requireCradle_6 rfl rfl (s_0number _ 1 (by omega)) (by first | rfl | (simp only [nI_add, pk_mul]; first | done | rfl)) rfl ?_
  refine AR.top hT.2.1.1 ?_
  refine AR.callS0 [.int (nI (k)), .int (nI (nc))] [] lk_4_64 dc_X4_requireCradle_9 (s_4requireIndexO _ k nc (by omega) (by omega)) (by first | rfl | (simp only [nI_add, pk_mul]; first | done | rfl)) rfl ?_
  exact AR.retV dc_X4_requireCradle_12 rfl rfl
set_option maxRecDepth 100000 in
set_option maxHeartbeats 4000000 in
theorem s_4requireCradleB {E : AE} (d : Nat) (x : Int32) {nv : Nat} {nc : Nat} {nr : Nat} {ne : Nat}  {o0 m0 u0 l0 : List AC} {T K : Nat → Nat → Int32} {os sc : Int32} {tc tp : Nat → Int32} {tl_ tn trd tv tdg tf tla : Int32} {pg ph pc : Nat → Int32} {pm : Int32} (hT : TI T nv nc nr ne) (hbad : ¬ ∃ q9 : Nat, q9 < nc ∧ x = nI q9) (hex : E.ex = false) : CT E M_X4_requireCradle (d + 2) [.ref 4096, .int (x)] (hp o0 (ar T K os sc) (te_ tc tp tl_ tn trd tv tdg tf tla) (pl pg ph pc pm) m0 u0 l0) (.inr "java/lang/IndexOutOfBoundsException") (hp o0 (ar T K os sc) (te_ tc tp tl_ tn trd tv tdg tf tla) (pl pg ph pc pm) m0 u0 l0) 1 6 := by
  obtain ⟨⟨hnv, h12⟩, ⟨hnc, h4⟩, ⟨hnr, h3⟩, ⟨hne, h60⟩, hLT, hHT⟩ := id hT
  refine CT.of (L := [some (.ref 4096), some (.int (x))]) rfl rfl ?_
  refine AR.run g_X4_requireCradle_0_4 6 [some (.ref 4096), some (.int (x))] [.int (nI (1)), .ref 4097, .int (x)] _ [] rfl trivial ?_
  refine AR.callV1 (4097) [.int (nI (1))] [.int (x)] lk_4_34 dc_X4_requireCradle_6 rfl rfl (s_0number _ 1 (by omega)) (by first | rfl | (simp only [nI_add, pk_mul]; first | done | rfl)) rfl ?_
  refine AR.top hT.2.1.1 ?_
  exact AR.end' rfl rfl (AR.room (by omega) (by omega) (AR.callSx [.int (x), .int (nI (nc))] [] lk_4_64 dc_X4_requireCradle_9 (s_4requireIndexB _ x nc (by assumption) (by omega) (by assumption)) (by first | rfl | (simp only [nI_add, pk_mul]; first | done | rfl)) rfl rfl))
theorem g_X4_requireCarrier_0_4 : ab_oks M_X4_requireCarrier [(0, .iload_n 1, 1, 1, 0, 0, .null), (1, .aload_n 0, 1, 0, 0, 0, .null), (2, .getfield 10, 3, 4, 0, 171, .null), (5, .iconst 2, 1, 0, 0, 0, .int (nI (2)))] = true := by decide +kernel
theorem dc_X4_requireCarrier_6 : decode (AM.bytes M_X4_requireCarrier) 6 = .ok (.invokevirtual 34, 3) := by decide +kernel
theorem dc_X4_requireCarrier_9 : decode (AM.bytes M_X4_requireCarrier) 9 = .ok (.invokestatic 64, 3) := by decide +kernel
theorem dc_X4_requireCarrier_12 : decode (AM.bytes M_X4_requireCarrier) 12 = .ok (.return_, 1) := by decide +kernel
set_option maxRecDepth 100000 in
set_option maxHeartbeats 4000000 in
theorem s_4requireCarrierO {E : AE} (d : Nat) (k : Nat) {nv : Nat} {nc : Nat} {nr : Nat} {ne : Nat}  {o0 m0 u0 l0 : List AC} {T K : Nat → Nat → Int32} {os sc : Int32} {tc tp : Nat → Int32} {tl_ tn trd tv tdg tf tla : Int32} {pg ph pc : Nat → Int32} {pm : Int32} (hT : TI T nv nc nr ne) (hk : k < nr) : CT E M_X4_requireCarrier (d + 2) [.ref 4096, .int (nI (k))] (hp o0 (ar T K os sc) (te_ tc tp tl_ tn trd tv tdg tf tla) (pl pg ph pc pm) m0 u0 l0) (.inl none) (hp o0 (ar T K os sc) (te_ tc tp tl_ tn trd tv tdg tf tla) (pl pg ph pc pm) m0 u0 l0) 0 0 := by
  obtain ⟨⟨hnv, h12⟩, ⟨hnc, h4⟩, ⟨hnr, h3⟩, ⟨hne, h60⟩, hLT, hHT⟩ := id hT
  refine CT.of (L := [some (.ref 4096), some (.int (nI (k)))]) rfl rfl ?_
  refine AR.run g_X4_requireCarrier_0_4 6 [some (.ref 4096), some (.int (nI (k)))] [.int (nI (2)), .ref 4097, .int (nI (k))] _ [] rfl trivial ?_
  refine AR.callV1 (4097) [.int (nI (2))] [.int (nI (k))] lk_4_34 dc_X4_requireCarrier_6 rfl rfl (s_0number _ 2 (by omega)) (by first | rfl | (simp only [nI_add, pk_mul]; first | done | rfl)) rfl ?_
  refine AR.top hT.2.2.1.1 ?_
  refine AR.callS0 [.int (nI (k)), .int (nI (nr))] [] lk_4_64 dc_X4_requireCarrier_9 (s_4requireIndexO _ k nr (by omega) (by omega)) (by first | rfl | (simp only [nI_add, pk_mul]; first | done | rfl)) rfl ?_
  exact AR.retV dc_X4_requireCarrier_12 rfl rfl
set_option maxRecDepth 100000 in
set_option maxHeartbeats 4000000 in
theorem s_4requireCarrierB {E : AE} (d : Nat) (x : Int32) {nv : Nat} {nc : Nat} {nr : Nat} {ne : Nat}  {o0 m0 u0 l0 : List AC} {T K : Nat → Nat → Int32} {os sc : Int32} {tc tp : Nat → Int32} {tl_ tn trd tv tdg tf tla : Int32} {pg ph pc : Nat → Int32} {pm : Int32} (hT : TI T nv nc nr ne) (hbad : ¬ ∃ q9 : Nat, q9 < nr ∧ x = nI q9) (hex : E.ex = false) : CT E M_X4_requireCarrier (d + 2) [.ref 4096, .int (x)] (hp o0 (ar T K os sc) (te_ tc tp tl_ tn trd tv tdg tf tla) (pl pg ph pc pm) m0 u0 l0) (.inr "java/lang/IndexOutOfBoundsException") (hp o0 (ar T K os sc) (te_ tc tp tl_ tn trd tv tdg tf tla) (pl pg ph pc pm) m0 u0 l0) 1 6 := by
  obtain ⟨⟨hnv, h12⟩, ⟨hnc, h4⟩, ⟨hnr, h3⟩, ⟨hne, h60⟩, hLT, hHT⟩ := id hT
  refine CT.of (L := [some (.ref 4096), some (.int (x))]) rfl rfl ?_
  refine AR.run g_X4_requireCarrier_0_4 6 [some (.ref 4096), some (.int (x))] [.int (nI (2)), .ref 4097, .int (x)] _ [] rfl trivial ?_
  refine AR.callV1 (4097) [.int (nI (2))] [.int (x)] lk_4_34 dc_X4_requireCarrier_6 rfl rfl (s_0number _ 2 (by omega)) (by first | rfl | (simp only [nI_add, pk_mul]; first | done | rfl)) rfl ?_
  refine AR.top hT.2.2.1.1 ?_
  exact AR.end' rfl rfl (AR.room (by omega) (by omega) (AR.callSx [.int (x), .int (nI (nr))] [] lk_4_64 dc_X4_requireCarrier_9 (s_4requireIndexB _ x nr (by assumption) (by omega) (by assumption)) (by first | rfl | (simp only [nI_add, pk_mul]; first | done | rfl)) rfl rfl))
