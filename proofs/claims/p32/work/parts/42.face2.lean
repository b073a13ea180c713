theorem ra_ne {v c r ne : Nat} {T : Nat → Nat → Int32} (h : F_0reasonAgainst v c r ne T = 0) : ne < 60 := by
  unfold F_0reasonAgainst at h
  (repeat' split at h) <;> first | exact absurd h (by decide) | omega
theorem mt_ne {v r ne : Nat} {T : Nat → Nat → Int32} (h : ¬ F_0mayTakeBack v r ne T = 0) : ne < 60 := by
  unfold F_0mayTakeBack at h
  (repeat' split at h) <;> first | exact absurd rfl h | omega
theorem g_X4_bring_15_5 : ab_oks M_X4_bring [(15, .aload_n 0, 1, 0, 0, 0, .null), (16, .getfield 10, 3, 4, 0, 171, .null), (19, .iload_n 1, 1, 1, 0, 0, .null), (20, .iload_n 2, 1, 2, 0, 0, .null), (21, .iload_n 3, 1, 3, 0, 0, .null)] = true := by decide +kernel
theorem lk_4_87 : ab_lkV "LeafCradles" 87 M_X0_reasonAgainst 3 [509, 510, 511, 30, 512] = true := by decide +kernel
theorem dc_X4_bring_22 : decode (AM.bytes M_X4_bring) 22 = .ok (.invokevirtual 87, 3) := by decide +kernel
theorem dc_X4_bring_25 : decode (AM.bytes M_X4_bring) 25 = .ok (.ifCond .eq 13, 3) := by decide +kernel
theorem dc_X4_bring_28 : decode (AM.bytes M_X4_bring) 28 = .ok (.new 38, 3) := by decide +kernel
theorem dc_X4_bring_31 : decode (AM.bytes M_X4_bring) 31 = .ok (.dup, 1) := by decide +kernel
theorem dc_X4_bring_32 : decode (AM.bytes M_X4_bring) 32 = .ok (.ldc 91, 2) := by decide +kernel
theorem dc_X4_bring_34 : decode (AM.bytes M_X4_bring) 34 = .ok (.invokespecial 42, 3) := by decide +kernel
theorem dc_X4_bring_37 : decode (AM.bytes M_X4_bring) 37 = .ok (.athrow, 1) := by decide +kernel
set_option maxRecDepth 100000 in
set_option maxHeartbeats 4000000 in
theorem s_4bringE {E : AE} (d : Nat) (v : Nat) (c : Nat) (r : Nat) {nv : Nat} {nc : Nat} {nr : Nat} {ne : Nat}  {o0 m0 u0 l0 : List AC} {T K : Nat → Nat → Int32} {os sc : Int32} {tc tp : Nat → Int32} {tl_ tn trd tv tdg tf tla : Int32} {pg ph pc : Nat → Int32} {pm : Int32} (hT : TI T nv nc nr ne) (hv : v < nv) (hc : c < nc) (hr : r < nr) (hrn : ¬ F_0reasonAgainst v c r ne T = 0) (hex : E.ex = false) : CT E M_X4_bring (d + 5) [.ref 4096, .int (nI (v)), .int (nI (c)), .int (nI (r))] (hp o0 (ar T K os sc) (te_ tc tp tl_ tn trd tv tdg tf tla) (pl pg ph pc pm) m0 u0 l0) (.inr "java/lang/IllegalStateException") (hp o0 (ar T K os sc) (te_ tc tp tl_ tn trd tv tdg tf tla) (pl pg ph pc pm) m0 u0 l0) 1 6 := by
  obtain ⟨⟨hnv, h12⟩, ⟨hnc, h4⟩, ⟨hnr, h3⟩, ⟨hne, h60⟩, hLT, hHT⟩ := id hT
  refine CT.of (L := [some (.ref 4096), some (.int (nI (v))), some (.int (nI (c))), some (.int (nI (r)))]) rfl rfl ?_
  refine AR.run g_X4_bring_0_2 2 [some (.ref 4096), some (.int (nI (v))), some (.int (nI (c))), some (.int (nI (r)))] [.int (nI (v)), .ref 4096] _ [] rfl trivial ?_
  refine AR.callV0 (4096) [.int (nI (v))] [] lk_4_77 dc_X4_bring_2 rfl rfl (s_4requireVolumeO _ v (by assumption) (by omega)) (by first | rfl | (simp only [nI_add, pk_mul]; first | done | rfl)) rfl ?_
  refine AR.run g_X4_bring_5_2 7 [some (.ref 4096), some (.int (nI (v))), some (.int (nI (c))), some (.int (nI (r)))] [.int (nI (c)), .ref 4096] _ [] rfl trivial ?_
  refine AR.callV0 (4096) [.int (nI (c))] [] lk_4_81 dc_X4_bring_7 rfl rfl (s_4requireCradleO _ c (by assumption) (by omega)) (by first | rfl | (simp only [nI_add, pk_mul]; first | done | rfl)) rfl ?_
  refine AR.run g_X4_bring_10_2 12 [some (.ref 4096), some (.int (nI (v))), some (.int (nI (c))), some (.int (nI (r)))] [.int (nI (r)), .ref 4096] _ [] rfl trivial ?_
  refine AR.callV0 (4096) [.int (nI (r))] [] lk_4_84 dc_X4_bring_12 rfl rfl (s_4requireCarrierO _ r (by assumption) (by omega)) (by first | rfl | (simp only [nI_add, pk_mul]; first | done | rfl)) rfl ?_
  refine AR.run g_X4_bring_15_5 22 [some (.ref 4096), some (.int (nI (v))), some (.int (nI (c))), some (.int (nI (r)))] [.int (nI (r)), .int (nI (c)), .int (nI (v)), .ref 4097] _ [] rfl trivial ?_
  refine AR.callV1 (4097) [.int (nI (v)), .int (nI (c)), .int (nI (r))] [] lk_4_87 dc_X4_bring_22 rfl rfl (s_0reasonAgainst _ v c r (by assumption) (by omega) (by omega) (by omega)) (by first | rfl | (simp only [nI_add, pk_mul]; first | done | rfl)) rfl ?_
  refine AR.eq (tgt := 38) dc_X4_bring_25 (by decide) (fun c25_1 => absurd c25_1 hrn) (fun c25_1 => ?_)
  exact AR.room (by omega) (by omega) (AR.throwS (text := "there is a reason against it") (by assumption) rfl rfl ab_thrOk_42 th_38_42a th_38_42b (by simp [ab_strs]) dc_X4_bring_28 dc_X4_bring_31 dc_X4_bring_32 dc_X4_bring_34 dc_X4_bring_37 rfl)
def F_4bring (v : Nat) (c : Nat) (r : Nat) (T : Nat → Nat → Int32) : Int32 := (F_0startBringing v c r T)
def F_4bring_T (v : Nat) (c : Nat) (r : Nat) (ne : Nat) (T : Nat → Nat → Int32) : Nat → Nat → Int32 := (F_0startBringing_T v c r ne T)
def F_4bring_K (a : Nat) (b : Nat) (T : Nat → Nat → Int32) (K : Nat → Nat → Int32) : Nat → Nat → Int32 := (F_0save_K a b T K)
def F_4bring_os (a : Nat) (b : Nat) (os : Int32) : Int32 := (F_0save_os a b os)
def F_4bring_sc (b : Nat) (sc : Int32) : Int32 := (F_0save_sc b sc)
theorem g_X4_bring_38_2 : ab_oks M_X4_bring [(38, .aload_n 0, 1, 0, 0, 0, .null), (39, .getfield 10, 3, 4, 0, 171, .null)] = true := by decide +kernel
theorem dc_X4_bring_42 : decode (AM.bytes M_X4_bring) 42 = .ok (.invokevirtual 45, 3) := by decide +kernel
theorem g_X4_bring_45_5 : ab_oks M_X4_bring [(45, .aload_n 0, 1, 0, 0, 0, .null), (46, .getfield 10, 3, 4, 0, 171, .null), (49, .iload_n 1, 1, 1, 0, 0, .null), (50, .iload_n 2, 1, 2, 0, 0, .null), (51, .iload_n 3, 1, 3, 0, 0, .null)] = true := by decide +kernel
theorem lk_4_93 : ab_lkV "LeafCradles" 93 M_X0_startBringing 3 [623, 624, 625, 30, 626] = true := by decide +kernel
theorem dc_X4_bring_52 : decode (AM.bytes M_X4_bring) 52 = .ok (.invokevirtual 93, 3) := by decide +kernel
theorem dc_X4_bring_55 : decode (AM.bytes M_X4_bring) 55 = .ok (.ireturn, 1) := by decide +kernel
set_option maxRecDepth 100000 in
set_option maxHeartbeats 4000000 in
theorem s_4bring {E : AE} (d : Nat) (v : Nat) (c : Nat) (r : Nat) {nv : Nat} {nc : Nat} {nr : Nat} {ne : Nat} {a : Nat} {b : Nat}  {o0 m0 u0 l0 : List AC} {T K : Nat → Nat → Int32} {os sc : Int32} {tc tp : Nat → Int32} {tl_ tn trd tv tdg tf tla : Int32} {pg ph pc : Nat → Int32} {pm : Int32} (hT : TI T nv nc nr ne) (hos : os = nI a) (ha : a < 6) (hsc : sc = nI b) (hb : b ≤ 6) (hv : v < nv) (hc : c < nc) (hr : r < nr) (hr0 : F_0reasonAgainst v c r ne T = 0) : CT E M_X4_bring (d + 5) [.ref 4096, .int (nI (v)), .int (nI (c)), .int (nI (r))] (hp o0 (ar T K os sc) (te_ tc tp tl_ tn trd tv tdg tf tla) (pl pg ph pc pm) m0 u0 l0) (.inl (some (.int (F_4bring v c r T)))) (hp o0 (ar (F_4bring_T v c r ne T) (F_4bring_K a b T K) (F_4bring_os a b os) (F_4bring_sc b sc)) (te_ tc tp tl_ tn trd tv tdg tf tla) (pl pg ph pc pm) m0 u0 l0) 0 0 := by
  obtain ⟨⟨hnv, h12⟩, ⟨hnc, h4⟩, ⟨hnr, h3⟩, ⟨hne, h60⟩, hLT, hHT⟩ := id hT
  have hne6 := ra_ne hr0
  refine CT.of (L := [some (.ref 4096), some (.int (nI (v))), some (.int (nI (c))), some (.int (nI (r)))]) rfl rfl ?_
  refine AR.run g_X4_bring_0_2 2 [some (.ref 4096), some (.int (nI (v))), some (.int (nI (c))), some (.int (nI (r)))] [.int (nI (v)), .ref 4096] _ [] rfl trivial ?_
  refine AR.callV0 (4096) [.int (nI (v))] [] lk_4_77 dc_X4_bring_2 rfl rfl (s_4requireVolumeO _ v (by assumption) (by omega)) (by first | rfl | (simp only [nI_add, pk_mul]; first | done | rfl)) rfl ?_
  refine AR.run g_X4_bring_5_2 7 [some (.ref 4096), some (.int (nI (v))), some (.int (nI (c))), some (.int (nI (r)))] [.int (nI (c)), .ref 4096] _ [] rfl trivial ?_
  refine AR.callV0 (4096) [.int (nI (c))] [] lk_4_81 dc_X4_bring_7 rfl rfl (s_4requireCradleO _ c (by assumption) (by omega)) (by first | rfl | (simp only [nI_add, pk_mul]; first | done | rfl)) rfl ?_
  refine AR.run g_X4_bring_10_2 12 [some (.ref 4096), some (.int (nI (v))), some (.int (nI (c))), some (.int (nI (r)))] [.int (nI (r)), .ref 4096] _ [] rfl trivial ?_
  refine AR.callV0 (4096) [.int (nI (r))] [] lk_4_84 dc_X4_bring_12 rfl rfl (s_4requireCarrierO _ r (by assumption) (by omega)) (by first | rfl | (simp only [nI_add, pk_mul]; first | done | rfl)) rfl ?_
  refine AR.run g_X4_bring_15_5 22 [some (.ref 4096), some (.int (nI (v))), some (.int (nI (c))), some (.int (nI (r)))] [.int (nI (r)), .int (nI (c)), .int (nI (v)), .ref 4097] _ [] rfl trivial ?_
  refine AR.callV1 (4097) [.int (nI (v)), .int (nI (c)), .int (nI (r))] [] lk_4_87 dc_X4_bring_22 rfl rfl (s_0reasonAgainst _ v c r (by assumption) (by omega) (by omega) (by omega)) (by first | rfl | (simp only [nI_add, pk_mul]; first | done | rfl)) rfl ?_
  refine AR.eq (tgt := 38) dc_X4_bring_25 (by decide) (fun c25_1 => ?_) (fun c25_1 => absurd c25_1 (fun q => q hr0))
  refine AR.run g_X4_bring_38_2 42 [some (.ref 4096), some (.int (nI (v))), some (.int (nI (c))), some (.int (nI (r)))] [.ref 4097] _ [] rfl trivial ?_
  refine AR.callV0 (4097) [] [] lk_4_45 dc_X4_bring_42 rfl rfl (s_0save _  (by assumption) (by omega) (by assumption) (by omega)) (by first | rfl | (simp only [nI_add, pk_mul]; first | done | rfl)) rfl ?_
  refine AR.run g_X4_bring_45_5 52 [some (.ref 4096), some (.int (nI (v))), some (.int (nI (c))), some (.int (nI (r)))] [.int (nI (r)), .int (nI (c)), .int (nI (v)), .ref 4097] _ [] rfl trivial ?_
  refine AR.callV1 (4097) [.int (nI (v)), .int (nI (c)), .int (nI (r))] [] lk_4_93 dc_X4_bring_52 rfl rfl (s_0startBringing _ v c r (by assumption) (by omega) (by omega) (by omega) (by omega)) (by first | rfl | (simp only [nI_add, pk_mul]; first | done | rfl)) rfl ?_
  have e2_0 : F_4bring v c r T = (F_0startBringing v c r T) := by rw [F_4bring]
  have e2_1 : F_4bring_T v c r ne T = (F_0startBringing_T v c r ne T) := by rw [F_4bring_T]
  have e2_2 : F_4bring_K a b T K = (F_0save_K a b T K) := by rw [F_4bring_K]
  have e2_3 : F_4bring_os a b os = (F_0save_os a b os) := by rw [F_4bring_os]
  have e2_4 : F_4bring_sc b sc = (F_0save_sc b sc) := by rw [F_4bring_sc]
  exact AR.retI dc_X4_bring_55 rfl e2_0.symm (by rw [e2_1, e2_2, e2_3, e2_4])
theorem g_X4_whyNot_15_5 : ab_oks M_X4_whyNot [(15, .aload_n 0, 1, 0, 0, 0, .null), (16, .getfield 10, 3, 4, 0, 171, .null), (19, .iload_n 1, 1, 1, 0, 0, .null), (20, .iload_n 2, 1, 2, 0, 0, .null), (21, .iload_n 3, 1, 3, 0, 0, .null)] = true := by decide +kernel
theorem dc_X4_whyNot_22 : decode (AM.bytes M_X4_whyNot) 22 = .ok (.invokevirtual 87, 3) := by decide +kernel
theorem dc_X4_whyNot_25 : decode (AM.bytes M_X4_whyNot) 25 = .ok (.ireturn, 1) := by decide +kernel
set_option maxRecDepth 100000 in
set_option maxHeartbeats 4000000 in
theorem s_4whyNot {E : AE} (d : Nat) (v : Nat) (c : Nat) (r : Nat) {nv : Nat} {nc : Nat} {nr : Nat} {ne : Nat}  {o0 m0 u0 l0 : List AC} {T K : Nat → Nat → Int32} {os sc : Int32} {tc tp : Nat → Int32} {tl_ tn trd tv tdg tf tla : Int32} {pg ph pc : Nat → Int32} {pm : Int32} (hT : TI T nv nc nr ne) (hv : v < nv) (hc : c < nc) (hr : r < nr) : CT E M_X4_whyNot (d + 3) [.ref 4096, .int (nI (v)), .int (nI (c)), .int (nI (r))] (hp o0 (ar T K os sc) (te_ tc tp tl_ tn trd tv tdg tf tla) (pl pg ph pc pm) m0 u0 l0) (.inl (some (.int (F_0reasonAgainst v c r ne T)))) (hp o0 (ar T K os sc) (te_ tc tp tl_ tn trd tv tdg tf tla) (pl pg ph pc pm) m0 u0 l0) 0 0 := by
  obtain ⟨⟨hnv, h12⟩, ⟨hnc, h4⟩, ⟨hnr, h3⟩, ⟨hne, h60⟩, hLT, hHT⟩ := id hT
  refine CT.of (L := [some (.ref 4096), some (.int (nI (v))), some (.int (nI (c))), some (.int (nI (r)))]) rfl rfl ?_
  refine AR.run g_X4_whyNot_0_2 2 [some (.ref 4096), some (.int (nI (v))), some (.int (nI (c))), some (.int (nI (r)))] [.int (nI (v)), .ref 4096] _ [] rfl trivial ?_
  refine AR.callV0 (4096) [.int (nI (v))] [] lk_4_77 dc_X4_whyNot_2 rfl rfl (s_4requireVolumeO _ v (by assumption) (by omega)) (by first | rfl | (simp only [nI_add, pk_mul]; first | done | rfl)) rfl ?_
  refine AR.run g_X4_whyNot_5_2 7 [some (.ref 4096), some (.int (nI (v))), some (.int (nI (c))), some (.int (nI (r)))] [.int (nI (c)), .ref 4096] _ [] rfl trivial ?_
  refine AR.callV0 (4096) [.int (nI (c))] [] lk_4_81 dc_X4_whyNot_7 rfl rfl (s_4requireCradleO _ c (by assumption) (by omega)) (by first | rfl | (simp only [nI_add, pk_mul]; first | done | rfl)) rfl ?_
  refine AR.run g_X4_whyNot_10_2 12 [some (.ref 4096), some (.int (nI (v))), some (.int (nI (c))), some (.int (nI (r)))] [.int (nI (r)), .ref 4096] _ [] rfl trivial ?_
  refine AR.callV0 (4096) [.int (nI (r))] [] lk_4_84 dc_X4_whyNot_12 rfl rfl (s_4requireCarrierO _ r (by assumption) (by omega)) (by first | rfl | (simp only [nI_add, pk_mul]; first | done | rfl)) rfl ?_
  refine AR.run g_X4_whyNot_15_5 22 [some (.ref 4096), some (.int (nI (v))), some (.int (nI (c))), some (.int (nI (r)))] [.int (nI (r)), .int (nI (c)), .int (nI (v)), .ref 4097] _ [] rfl trivial ?_
  refine AR.callV1 (4097) [.int (nI (v)), .int (nI (c)), .int (nI (r))] [] lk_4_87 dc_X4_whyNot_22 rfl rfl (s_0reasonAgainst _ v c r (by assumption) (by omega) (by omega) (by omega)) (by first | rfl | (simp only [nI_add, pk_mul]; first | done | rfl)) rfl ?_
  exact AR.retI dc_X4_whyNot_25 rfl rfl rfl
theorem g_X4_takeBack_0_2 : ab_oks M_X4_takeBack [(0, .aload_n 0, 1, 0, 0, 0, .null), (1, .iload_n 1, 1, 1, 0, 0, .null)] = true := by decide +kernel
theorem dc_X4_takeBack_2 : decode (AM.bytes M_X4_takeBack) 2 = .ok (.invokevirtual 77, 3) := by decide +kernel
set_option maxRecDepth 100000 in
set_option maxHeartbeats 4000000 in
theorem s_4takeBackA {E : AE} (d : Nat) (x : Int32) (w : Int32) {nv : Nat} {nc : Nat} {nr : Nat} {ne : Nat}  {o0 m0 u0 l0 : List AC} {T K : Nat → Nat → Int32} {os sc : Int32} {tc tp : Nat → Int32} {tl_ tn trd tv tdg tf tla : Int32} {pg ph pc : Nat → Int32} {pm : Int32} (hT : TI T nv nc nr ne) (hbad : ¬ ∃ q9 : Nat, q9 < nv ∧ x = nI q9) (hex : E.ex = false) : CT E M_X4_takeBack (d + 5) [.ref 4096, .int (x), .int (w)] (hp o0 (ar T K os sc) (te_ tc tp tl_ tn trd tv tdg tf tla) (pl pg ph pc pm) m0 u0 l0) (.inr "java/lang/IndexOutOfBoundsException") (hp o0 (ar T K os sc) (te_ tc tp tl_ tn trd tv tdg tf tla) (pl pg ph pc pm) m0 u0 l0) 1 6 := by
  obtain ⟨⟨hnv, h12⟩, ⟨hnc, h4⟩, ⟨hnr, h3⟩, ⟨hne, h60⟩, hLT, hHT⟩ := id hT
  refine CT.of (L := [some (.ref 4096), some (.int (x)), some (.int (w))]) rfl rfl ?_
  refine AR.run g_X4_takeBack_0_2 2 [some (.ref 4096), some (.int (x)), some (.int (w))] [.int (x), .ref 4096] _ [] rfl trivial ?_
  exact AR.end' rfl rfl (AR.room (by omega) (by omega) (AR.callVx (4096) [.int (x)] [] lk_4_77 dc_X4_takeBack_2 rfl rfl (s_4requireVolumeB _ x (by assumption) (by omega) (by assumption)) (by first | rfl | (simp only [nI_add, pk_mul]; first | done | rfl)) rfl rfl))
theorem g_X4_takeBack_5_2 : ab_oks M_X4_takeBack [(5, .aload_n 0, 1, 0, 0, 0, .null), (6, .iload_n 2, 1, 2, 0, 0, .null)] = true := by decide +kernel
theorem dc_X4_takeBack_7 : decode (AM.bytes M_X4_takeBack) 7 = .ok (.invokevirtual 84, 3) := by decide +kernel
set_option maxRecDepth 100000 in
set_option maxHeartbeats 4000000 in
theorem s_4takeBackB {E : AE} (d : Nat) (v : Nat) (x : Int32) {nv : Nat} {nc : Nat} {nr : Nat} {ne : Nat}  {o0 m0 u0 l0 : List AC} {T K : Nat → Nat → Int32} {os sc : Int32} {tc tp : Nat → Int32} {tl_ tn trd tv tdg tf tla : Int32} {pg ph pc : Nat → Int32} {pm : Int32} (hT : TI T nv nc nr ne) (hv : v < nv) (hbad : ¬ ∃ q9 : Nat, q9 < nr ∧ x = nI q9) (hex : E.ex = false) : CT E M_X4_takeBack (d + 5) [.ref 4096, .int (nI (v)), .int (x)] (hp o0 (ar T K os sc) (te_ tc tp tl_ tn trd tv tdg tf tla) (pl pg ph pc pm) m0 u0 l0) (.inr "java/lang/IndexOutOfBoundsException") (hp o0 (ar T K os sc) (te_ tc tp tl_ tn trd tv tdg tf tla) (pl pg ph pc pm) m0 u0 l0) 1 6 := by
  obtain ⟨⟨hnv, h12⟩, ⟨hnc, h4⟩, ⟨hnr, h3⟩, ⟨hne, h60⟩, hLT, hHT⟩ := id hT
  refine CT.of (L := [some (.ref 4096), some (.int (nI (v))), some (.int (x))]) rfl rfl ?_
  refine AR.run g_X4_takeBack_0_2 2 [some (.ref 4096), some (.int (nI (v))), some (.int (x))] [.int (nI (v)), .ref 4096] _ [] rfl trivial ?_
  refine AR.callV0 (4096) [.int (nI (v))] [] lk_4_77 dc_X4_takeBack_2 rfl rfl (s_4requireVolumeO _ v (by assumption) (by omega)) (by first | rfl | (simp only [nI_add, pk_mul]; first | done | rfl)) rfl ?_
  refine AR.run g_X4_takeBack_5_2 7 [some (.ref 4096), some (.int (nI (v))), some (.int (x))] [.int (x), .ref 4096] _ [] rfl trivial ?_
  exact AR.end' rfl rfl (AR.room (by omega) (by omega) (AR.callVx (4096) [.int (x)] [] lk_4_84 dc_X4_takeBack_7 rfl rfl (s_4requireCarrierB _ x (by assumption) (by omega) (by assumption)) (by first | rfl | (simp only [nI_add, pk_mul]; first | done | rfl)) rfl rfl))
theorem g_X4_takeBack_10_4 : ab_oks M_X4_takeBack [(10, .aload_n 0, 1, 0, 0, 0, .null), (11, .getfield 10, 3, 4, 0, 171, .null), (14, .iload_n 1, 1, 1, 0, 0, .null), (15, .iload_n 2, 1, 2, 0, 0, .null)] = true := by decide +kernel
theorem lk_4_96 : ab_lkV "LeafCradles" 96 M_X0_mayTakeBack 2 [638, 639, 640, 30, 641] = true := by decide +kernel
theorem dc_X4_takeBack_16 : decode (AM.bytes M_X4_takeBack) 16 = .ok (.invokevirtual 96, 3) := by decide +kernel
theorem dc_X4_takeBack_19 : decode (AM.bytes M_X4_takeBack) 19 = .ok (.ifCond .ne 13, 3) := by decide +kernel
theorem dc_X4_takeBack_22 : decode (AM.bytes M_X4_takeBack) 22 = .ok (.new 38, 3) := by decide +kernel
theorem dc_X4_takeBack_25 : decode (AM.bytes M_X4_takeBack) 25 = .ok (.dup, 1) := by decide +kernel
theorem dc_X4_takeBack_26 : decode (AM.bytes M_X4_takeBack) 26 = .ok (.ldc 100, 2) := by decide +kernel
theorem dc_X4_takeBack_28 : decode (AM.bytes M_X4_takeBack) 28 = .ok (.invokespecial 42, 3) := by decide +kernel
theorem dc_X4_takeBack_31 : decode (AM.bytes M_X4_takeBack) 31 = .ok (.athrow, 1) := by decide +kernel
set_option maxRecDepth 100000 in
set_option maxHeartbeats 4000000 in
theorem s_4takeBackE {E : AE} (d : Nat) (v : Nat) (r : Nat) {nv : Nat} {nc : Nat} {nr : Nat} {ne : Nat}  {o0 m0 u0 l0 : List AC} {T K : Nat → Nat → Int32} {os sc : Int32} {tc tp : Nat → Int32} {tl_ tn trd tv tdg tf tla : Int32} {pg ph pc : Nat → Int32} {pm : Int32} (hT : TI T nv nc nr ne) (hv : v < nv) (hr : r < nr) (hm0 : F_0mayTakeBack v r ne T = 0) (hex : E.ex = false) : CT E M_X4_takeBack (d + 5) [.ref 4096, .int (nI (v)), .int (nI (r))] (hp o0 (ar T K os sc) (te_ tc tp tl_ tn trd tv tdg tf tla) (pl pg ph pc pm) m0 u0 l0) (.inr "java/lang/IllegalStateException") (hp o0 (ar T K os sc) (te_ tc tp tl_ tn trd tv tdg tf tla) (pl pg ph pc pm) m0 u0 l0) 1 6 := by
  obtain ⟨⟨hnv, h12⟩, ⟨hnc, h4⟩, ⟨hnr, h3⟩, ⟨hne, h60⟩, hLT, hHT⟩ := id hT
  refine CT.of (L := [some (.ref 4096), some (.int (nI (v))), some (.int (nI (r)))]) rfl rfl ?_
  refine AR.run g_X4_takeBack_0_2 2 [some (.ref 4096), some (.int (nI (v))), some (.int (nI (r)))] [.int (nI (v)), .ref 4096] _ [] rfl trivial ?_
  refine AR.callV0 (4096) [.int (nI (v))] [] lk_4_77 dc_X4_takeBack_2 rfl rfl (s_4requireVolumeO _ v (by assumption) (by omega)) (by first | rfl | (simp only [nI_add, pk_mul]; first | done | rfl)) rfl ?_
  refine AR.run g_X4_takeBack_5_2 7 [some (.ref 4096), some (.int (nI (v))), some (.int (nI (r)))] [.int (nI (r)), .ref 4096] _ [] rfl trivial ?_
  refine AR.callV0 (4096) [.int (nI (r))] [] lk_4_84 dc_X4_takeBack_7 rfl rfl (s_4requireCarrierO _ r (by assumption) (by omega)) (by first | rfl | (simp only [nI_add, pk_mul]; first | done | rfl)) rfl ?_
  refine AR.run g_X4_takeBack_10_4 16 [some (.ref 4096), some (.int (nI (v))), some (.int (nI (r)))] [.int (nI (r)), .int (nI (v)), .ref 4097] _ [] rfl trivial ?_
  refine AR.callV1 (4097) [.int (nI (v)), .int (nI (r))] [] lk_4_96 dc_X4_takeBack_16 rfl rfl (s_0mayTakeBack _ v r (by assumption) (by omega) (by omega)) (by first | rfl | (simp only [nI_add, pk_mul]; first | done | rfl)) rfl ?_
  refine AR.ne (tgt := 32) dc_X4_takeBack_19 (by decide) (fun c19_1 => absurd c19_1 (fun q => q hm0)) (fun c19_1 => ?_)
  exact AR.room (by omega) (by omega) (AR.throwS (text := "it cannot be brought back by this carrier now") (by assumption) rfl rfl ab_thrOk_42 th_38_42a th_38_42b (by simp [ab_strs]) dc_X4_takeBack_22 dc_X4_takeBack_25 dc_X4_takeBack_26 dc_X4_takeBack_28 dc_X4_takeBack_31 rfl)
def F_4takeBack (v : Nat) (r : Nat) (c : Nat) (T : Nat → Nat → Int32) : Int32 := (F_0startTakingBack v r c T)
def F_4takeBack_T (v : Nat) (r : Nat) (ne : Nat) (c : Nat) (T : Nat → Nat → Int32) : Nat → Nat → Int32 := (F_0startTakingBack_T v r ne c T)
def F_4takeBack_K (a : Nat) (b : Nat) (T : Nat → Nat → Int32) (K : Nat → Nat → Int32) : Nat → Nat → Int32 := (F_0save_K a b T K)
def F_4takeBack_os (a : Nat) (b : Nat) (os : Int32) : Int32 := (F_0save_os a b os)
def F_4takeBack_sc (b : Nat) (sc : Int32) : Int32 := (F_0save_sc b sc)
theorem g_X4_takeBack_32_2 : ab_oks M_X4_takeBack [(32, .aload_n 0, 1, 0, 0, 0, .null), (33, .getfield 10, 3, 4, 0, 171, .null)] = true := by decide +kernel
theorem dc_X4_takeBack_36 : decode (AM.bytes M_X4_takeBack) 36 = .ok (.invokevirtual 45, 3) := by decide +kernel
theorem g_X4_takeBack_39_4 : ab_oks M_X4_takeBack [(39, .aload_n 0, 1, 0, 0, 0, .null), (40, .getfield 10, 3, 4, 0, 171, .null), (43, .iload_n 1, 1, 1, 0, 0, .null), (44, .iload_n 2, 1, 2, 0, 0, .null)] = true := by decide +kernel
theorem lk_4_102 : ab_lkV "LeafCradles" 102 M_X0_startTakingBack 2 [643, 644, 645, 30, 646] = true := by decide +kernel
theorem dc_X4_takeBack_45 : decode (AM.bytes M_X4_takeBack) 45 = .ok (.invokevirtual 102, 3) := by decide +kernel
theorem dc_X4_takeBack_48 : decode (AM.bytes M_X4_takeBack) 48 = .ok (.ireturn, 1) := by decide +kernel
set_option maxRecDepth 100000 in
set_option maxHeartbeats 4000000 in
theorem s_4takeBack {E : AE} (d : Nat) (v : Nat) (r : Nat) {nv : Nat} {nc : Nat} {nr : Nat} {ne : Nat} {a : Nat} {b : Nat} {c : Nat}  {o0 m0 u0 l0 : List AC} {T K : Nat → Nat → Int32} {os sc : Int32} {tc tp : Nat → Int32} {tl_ tn trd tv tdg tf tla : Int32} {pg ph pc : Nat → Int32} {pm : Int32} (hT : TI T nv nc nr ne) (hos : os = nI a) (ha : a < 6) (hsc : sc = nI b) (hb : b ≤ 6) (hv : v < nv) (hr : r < nr) (hmn : ¬ F_0mayTakeBack v r ne T = 0) (hon : T 0 (v * 7 + 5) = nI c) (hc : c < 4) : CT E M_X4_takeBack (d + 5) [.ref 4096, .int (nI (v)), .int (nI (r))] (hp o0 (ar T K os sc) (te_ tc tp tl_ tn trd tv tdg tf tla) (pl pg ph pc pm) m0 u0 l0) (.inl (some (.int (F_4takeBack v r c T)))) (hp o0 (ar (F_4takeBack_T v r ne c T) (F_4takeBack_K a b T K) (F_4takeBack_os a b os) (F_4takeBack_sc b sc)) (te_ tc tp tl_ tn trd tv tdg tf tla) (pl pg ph pc pm) m0 u0 l0) 0 0 := by
  obtain ⟨⟨hnv, h12⟩, ⟨hnc, h4⟩, ⟨hnr, h3⟩, ⟨hne, h60⟩, hLT, hHT⟩ := id hT
  have hne6 := mt_ne hmn
  refine CT.of (L := [some (.ref 4096), some (.int (nI (v))), some (.int (nI (r)))]) rfl rfl ?_
  refine AR.run g_X4_takeBack_0_2 2 [some (.ref 4096), some (.int (nI (v))), some (.int (nI (r)))] [.int (nI (v)), .ref 4096] _ [] rfl trivial ?_
  refine AR.callV0 (4096) [.int (nI (v))] [] lk_4_77 dc_X4_takeBack_2 rfl rfl (s_4requireVolumeO _ v (by assumption) (by omega)) (by first | rfl | (simp only [nI_add, pk_mul]; first | done | rfl)) rfl ?_
  refine AR.run g_X4_takeBack_5_2 7 [some (.ref 4096), some (.int (nI (v))), some (.int (nI (r)))] [.int (nI (r)), .ref 4096] _ [] rfl trivial ?_
  refine AR.callV0 (4096) [.int (nI (r))] [] lk_4_84 dc_X4_takeBack_7 rfl rfl (s_4requireCarrierO _ r (by assumption) (by omega)) (by first | rfl | (simp only [nI_add, pk_mul]; first | done | rfl)) rfl ?_
  refine AR.run g_X4_takeBack_10_4 16 [some (.ref 4096), some (.int (nI (v))), some (.int (nI (r)))] [.int (nI (r)), .int (nI (v)), .ref 4097] _ [] rfl trivial ?_
  refine AR.callV1 (4097) [.int (nI (v)), .int (nI (r))] [] lk_4_96 dc_X4_takeBack_16 rfl rfl (s_0mayTakeBack _ v r (by assumption) (by omega) (by omega)) (by first | rfl | (simp only [nI_add, pk_mul]; first | done | rfl)) rfl ?_
  refine AR.ne (tgt := 32) dc_X4_takeBack_19 (by decide) (fun c19_1 => ?_) (fun c19_1 => absurd c19_1 hmn)
  refine AR.run g_X4_takeBack_32_2 36 [some (.ref 4096), some (.int (nI (v))), some (.int (nI (r)))] [.ref 4097] _ [] rfl trivial ?_
  refine AR.callV0 (4097) [] [] lk_4_45 dc_X4_takeBack_36 rfl rfl (s_0save _  (by assumption) (by omega) (by assumption) (by omega)) (by first | rfl | (simp only [nI_add, pk_mul]; first | done | rfl)) rfl ?_
  refine AR.run g_X4_takeBack_39_4 45 [some (.ref 4096), some (.int (nI (v))), some (.int (nI (r)))] [.int (nI (r)), .int (nI (v)), .ref 4097] _ [] rfl trivial ?_
  refine AR.callV1 (4097) [.int (nI (v)), .int (nI (r))] [] lk_4_102 dc_X4_takeBack_45 rfl rfl (s_0startTakingBack _ v r (by assumption) (by omega) (by omega) (by omega) (by assumption) (by omega)) (by first | rfl | (simp only [nI_add, pk_mul]; first | done | rfl)) rfl ?_
  have e2_0 : F_4takeBack v r c T = (F_0startTakingBack v r c T) := by rw [F_4takeBack]
  have e2_1 : F_4takeBack_T v r ne c T = (F_0startTakingBack_T v r ne c T) := by rw [F_4takeBack_T]
  have e2_2 : F_4takeBack_K a b T K = (F_0save_K a b T K) := by rw [F_4takeBack_K]
  have e2_3 : F_4takeBack_os a b os = (F_0save_os a b os) := by rw [F_4takeBack_os]
  have e2_4 : F_4takeBack_sc b sc = (F_0save_sc b sc) := by rw [F_4takeBack_sc]
  exact AR.retI dc_X4_takeBack_48 rfl e2_0.symm (by rw [e2_1, e2_2, e2_3, e2_4])
theorem g_X4_pass_0_3 : ab_oks M_X4_pass [(0, .iload_n 1, 1, 1, 0, 0, .null), (1, .iconst 1, 1, 0, 0, 0, .int (nI (1))), (2, .sipush 500, 3, 0, 0, 0, .int (nI (500)))] = true := by decide +kernel
theorem dc_X4_pass_5 : decode (AM.bytes M_X4_pass) 5 = .ok (.invokestatic 30, 3) := by decide +kernel
set_option maxRecDepth 100000 in
set_option maxHeartbeats 4000000 in
theorem s_4passA {E : AE} (d : Nat) (m : Int32) {nv : Nat} {nc : Nat} {nr : Nat} {ne : Nat}  {o0 m0 u0 l0 : List AC} {T K : Nat → Nat → Int32} {os sc : Int32} {tc tp : Nat → Int32} {tl_ tn trd tv tdg tf tla : Int32} {pg ph pc : Nat → Int32} {pm : Int32} (hT : TI T nv nc nr ne) (hx : wi m (nI 1) (nI 500) = 0) (hex : E.ex = false) : CT E M_X4_pass (d + 4) [.ref 4096, .int (m)] (hp o0 (ar T K os sc) (te_ tc tp tl_ tn trd tv tdg tf tla) (pl pg ph pc pm) m0 u0 l0) (.inr "java/lang/IllegalArgumentException") (hp o0 (ar T K os sc) (te_ tc tp tl_ tn trd tv tdg tf tla) (pl pg ph pc pm) m0 u0 l0) 1 6 := by
  obtain ⟨⟨hnv, h12⟩, ⟨hnc, h4⟩, ⟨hnr, h3⟩, ⟨hne, h60⟩, hLT, hHT⟩ := id hT
  refine CT.of (L := [some (.ref 4096), some (.int (m))]) rfl rfl ?_
  refine AR.run g_X4_pass_0_3 5 [some (.ref 4096), some (.int (m))] [.int (nI (500)), .int (nI (1)), .int (m)] _ [] rfl trivial ?_
  exact AR.end' rfl rfl (AR.room (by omega) (by omega) (AR.callSx [.int (m), .int (nI (1)), .int (nI (500))] [] lk_4_30 dc_X4_pass_5 (s_4requireRangeB _ m (nI (1)) (nI (500)) (by assumption) (by assumption)) (by first | rfl | (simp only [nI_add, pk_mul]; first | done | rfl)) rfl rfl))
theorem g_X4_pass_8_3 : ab_oks M_X4_pass [(8, .aload_n 0, 1, 0, 0, 0, .null), (9, .getfield 10, 3, 4, 0, 171, .null), (12, .iconst 3, 1, 0, 0, 0, .int (nI (3)))] = true := by decide +kernel
theorem dc_X4_pass_13 : decode (AM.bytes M_X4_pass) 13 = .ok (.invokevirtual 34, 3) := by decide +kernel
theorem g_X4_pass_16_3 : ab_oks M_X4_pass [(16, .iload_n 1, 1, 1, 0, 0, .null), (17, .iadd, 1, 0, 0, 0, .null), (18, .sipush 20000, 3, 0, 0, 0, .int (nI (20000)))] = true := by decide +kernel
theorem dc_X4_pass_21 : decode (AM.bytes M_X4_pass) 21 = .ok (.if_icmp .le 13, 3) := by decide +kernel
theorem dc_X4_pass_24 : decode (AM.bytes M_X4_pass) 24 = .ok (.new 38, 3) := by decide +kernel
theorem dc_X4_pass_27 : decode (AM.bytes M_X4_pass) 27 = .ok (.dup, 1) := by decide +kernel
theorem dc_X4_pass_28 : decode (AM.bytes M_X4_pass) 28 = .ok (.ldc 105, 2) := by decide +kernel
theorem dc_X4_pass_30 : decode (AM.bytes M_X4_pass) 30 = .ok (.invokespecial 42, 3) := by decide +kernel
theorem dc_X4_pass_33 : decode (AM.bytes M_X4_pass) 33 = .ok (.athrow, 1) := by decide +kernel
set_option maxRecDepth 100000 in
set_option maxHeartbeats 4000000 in
theorem s_4passE {E : AE} (d : Nat) (m : Int32) {nv : Nat} {nc : Nat} {nr : Nat} {ne : Nat}  {o0 m0 u0 l0 : List AC} {T K : Nat → Nat → Int32} {os sc : Int32} {tc tp : Nat → Int32} {tl_ tn trd tv tdg tf tla : Int32} {pg ph pc : Nat → Int32} {pm : Int32} (hT : TI T nv nc nr ne) (ho0 : ¬ wi m (nI 1) (nI 500) = 0) (he : ¬ T 5 3 + m ≤ nI 20000) (hex : E.ex = false) : CT E M_X4_pass (d + 4) [.ref 4096, .int (m)] (hp o0 (ar T K os sc) (te_ tc tp tl_ tn trd tv tdg tf tla) (pl pg ph pc pm) m0 u0 l0) (.inr "java/lang/IllegalStateException") (hp o0 (ar T K os sc) (te_ tc tp tl_ tn trd tv tdg tf tla) (pl pg ph pc pm) m0 u0 l0) 1 6 := by
  obtain ⟨⟨hnv, h12⟩, ⟨hnc, h4⟩, ⟨hnr, h3⟩, ⟨hne, h60⟩, hLT, hHT⟩ := id hT
  refine CT.of (L := [some (.ref 4096), some (.int (m))]) rfl rfl ?_
  refine AR.run g_X4_pass_0_3 5 [some (.ref 4096), some (.int (m))] [.int (nI (500)), .int (nI (1)), .int (m)] _ [] rfl trivial ?_
  refine AR.callS0 [.int (m), .int (nI (1)), .int (nI (500))] [] lk_4_30 dc_X4_pass_5 (s_4requireRangeO _ m (nI (1)) (nI (500)) (by assumption)) (by first | rfl | (simp only [nI_add, pk_mul]; first | done | rfl)) rfl ?_
  refine AR.run g_X4_pass_8_3 13 [some (.ref 4096), some (.int (m))] [.int (nI (3)), .ref 4097] _ [] rfl trivial ?_
  refine AR.callV1 (4097) [.int (nI (3))] [] lk_4_34 dc_X4_pass_13 rfl rfl (s_0number _ 3 (by omega)) (by first | rfl | (simp only [nI_add, pk_mul]; first | done | rfl)) rfl ?_
  refine AR.run g_X4_pass_16_3 21 [some (.ref 4096), some (.int (m))] [.int (nI (20000)), .int (((T 5) 3) + m)] _ [] rfl trivial ?_
  refine AR.le2 (tgt := 34) dc_X4_pass_21 (by decide) (fun c21_1 => absurd c21_1 he) (fun c21_1 => ?_)
  exact AR.room (by omega) (by omega) (AR.throwS (text := "the number of the minute would be above 20000") (by assumption) rfl rfl ab_thrOk_42 th_38_42a th_38_42b (by simp [ab_strs]) dc_X4_pass_24 dc_X4_pass_27 dc_X4_pass_28 dc_X4_pass_30 dc_X4_pass_33 rfl)
def F_4pass (m : Int32) (nc : Nat) (T : Nat → Nat → Int32) : Int32 := (F_0letMinutesPass m nc T)
def F_4pass_T (m : Int32) (nv : Nat) (nc : Nat) (nr : Nat) (T : Nat → Nat → Int32) : Nat → Nat → Int32 := (F_0letMinutesPass_T m nv nc nr T)
def F_4pass_K (a : Nat) (b : Nat) (T : Nat → Nat → Int32) (K : Nat → Nat → Int32) : Nat → Nat → Int32 := (F_0save_K a b T K)
def F_4pass_os (a : Nat) (b : Nat) (os : Int32) : Int32 := (F_0save_os a b os)
def F_4pass_sc (b : Nat) (sc : Int32) : Int32 := (F_0save_sc b sc)
theorem g_X4_pass_34_2 : ab_oks M_X4_pass [(34, .aload_n 0, 1, 0, 0, 0, .null), (35, .getfield 10, 3, 4, 0, 171, .null)] = true := by decide +kernel
theorem dc_X4_pass_38 : decode (AM.bytes M_X4_pass) 38 = .ok (.invokevirtual 45, 3) := by decide +kernel
theorem g_X4_pass_41_3 : ab_oks M_X4_pass [(41, .aload_n 0, 1, 0, 0, 0, .null), (42, .getfield 10, 3, 4, 0, 171, .null), (45, .iload_n 1, 1, 1, 0, 0, .null)] = true := by decide +kernel
theorem lk_4_107 : ab_lkV "LeafCradles" 107 M_X0_letMinutesPass 1 [652, 653, 654, 30, 655] = true := by decide +kernel
theorem dc_X4_pass_46 : decode (AM.bytes M_X4_pass) 46 = .ok (.invokevirtual 107, 3) := by decide +kernel
theorem dc_X4_pass_49 : decode (AM.bytes M_X4_pass) 49 = .ok (.ireturn, 1) := by decide +kernel
set_option maxRecDepth 100000 in
set_option maxHeartbeats 4000000 in
theorem s_4pass {E : AE} (d : Nat) (m : Int32) {nv : Nat} {nc : Nat} {nr : Nat} {ne : Nat} {a : Nat} {b : Nat}  {o0 m0 u0 l0 : List AC} {T K : Nat → Nat → Int32} {os sc : Int32} {tc tp : Nat → Int32} {tl_ tn trd tv tdg tf tla : Int32} {pg ph pc : Nat → Int32} {pm : Int32} (hT : TI T nv nc nr ne) (hos : os = nI a) (ha : a < 6) (hsc : sc = nI b) (hb : b ≤ 6) (ho0 : ¬ wi m (nI 1) (nI 500) = 0) (he : T 5 3 + m ≤ nI 20000) : CT E M_X4_pass (d + 4) [.ref 4096, .int (m)] (hp o0 (ar T K os sc) (te_ tc tp tl_ tn trd tv tdg tf tla) (pl pg ph pc pm) m0 u0 l0) (.inl (some (.int (F_4pass m nc T)))) (hp o0 (ar (F_4pass_T m nv nc nr T) (F_4pass_K a b T K) (F_4pass_os a b os) (F_4pass_sc b sc)) (te_ tc tp tl_ tn trd tv tdg tf tla) (pl pg ph pc pm) m0 u0 l0) 0 0 := by
  obtain ⟨⟨hnv, h12⟩, ⟨hnc, h4⟩, ⟨hnr, h3⟩, ⟨hne, h60⟩, hLT, hHT⟩ := id hT
  refine CT.of (L := [some (.ref 4096), some (.int (m))]) rfl rfl ?_
  refine AR.run g_X4_pass_0_3 5 [some (.ref 4096), some (.int (m))] [.int (nI (500)), .int (nI (1)), .int (m)] _ [] rfl trivial ?_
  refine AR.callS0 [.int (m), .int (nI (1)), .int (nI (500))] [] lk_4_30 dc_X4_pass_5 (s_4requireRangeO _ m (nI (1)) (nI (500)) (by assumption)) (by first | rfl | (simp only [nI_add, pk_mul]; first | done | rfl)) rfl ?_
  refine AR.run g_X4_pass_8_3 13 [some (.ref 4096), some (.int (m))] [.int (nI (3)), .ref 4097] _ [] rfl trivial ?_
  refine AR.callV1 (4097) [.int (nI (3))] [] lk_4_34 dc_X4_pass_13 rfl rfl (s_0number _ 3 (by omega)) (by first | rfl | (simp only [nI_add, pk_mul]; first | done | rfl)) rfl ?_
  refine AR.run g_X4_pass_16_3 21 [some (.ref 4096), some (.int (m))] [.int (nI (20000)), .int (((T 5) 3) + m)] _ [] rfl trivial ?_
  refine AR.le2 (tgt := 34) dc_X4_pass_21 (by decide) (fun c21_1 => ?_) (fun c21_1 => absurd c21_1 (fun q => q he))
  refine AR.run g_X4_pass_34_2 38 [some (.ref 4096), some (.int (m))] [.ref 4097] _ [] rfl trivial ?_
  refine AR.callV0 (4097) [] [] lk_4_45 dc_X4_pass_38 rfl rfl (s_0save _  (by assumption) (by omega) (by assumption) (by omega)) (by first | rfl | (simp only [nI_add, pk_mul]; first | done | rfl)) rfl ?_
  refine AR.run g_X4_pass_41_3 46 [some (.ref 4096), some (.int (m))] [.int (m), .ref 4097] _ [] rfl trivial ?_
  refine AR.callV1 (4097) [.int (m)] [] lk_4_107 dc_X4_pass_46 rfl rfl (s_0letMinutesPass _ m (by assumption)) (by first | rfl | (simp only [nI_add, pk_mul]; first | done | rfl)) rfl ?_
  have e2_0 : F_4pass m nc T = (F_0letMinutesPass m nc T) := by rw [F_4pass]
  have e2_1 : F_4pass_T m nv nc nr T = (F_0letMinutesPass_T m nv nc nr T) := by rw [F_4pass_T]
  have e2_2 : F_4pass_K a b T K = (F_0save_K a b T K) := by rw [F_4pass_K]
  have e2_3 : F_4pass_os a b os = (F_0save_os a b os) := by rw [F_4pass_os]
  have e2_4 : F_4pass_sc b sc = (F_0save_sc b sc) := by rw [F_4pass_sc]
  exact AR.retI dc_X4_pass_49 rfl e2_0.symm (by rw [e2_1, e2_2, e2_3, e2_4])
theorem g_X4_reject_0_2 : ab_oks M_X4_reject [(0, .aload_n 0, 1, 0, 0, 0, .null), (1, .iload_n 1, 1, 1, 0, 0, .null)] = true := by decide +kernel
theorem dc_X4_reject_2 : decode (AM.bytes M_X4_reject) 2 = .ok (.invokevirtual 77, 3) := by decide +kernel
set_option maxRecDepth 100000 in
set_option maxHeartbeats 4000000 in
theorem s_4rejectA {E : AE} (d : Nat) (x : Int32) (y : Int32) {nv : Nat} {nc : Nat} {nr : Nat} {ne : Nat}  {o0 m0 u0 l0 : List AC} {T K : Nat → Nat → Int32} {os sc : Int32} {tc tp : Nat → Int32} {tl_ tn trd tv tdg tf tla : Int32} {pg ph pc : Nat → Int32} {pm : Int32} (hT : TI T nv nc nr ne) (hbad : ¬ ∃ q9 : Nat, q9 < nv ∧ x = nI q9) (hex : E.ex = false) : CT E M_X4_reject (d + 4) [.ref 4096, .int (x), .int (y)] (hp o0 (ar T K os sc) (te_ tc tp tl_ tn trd tv tdg tf tla) (pl pg ph pc pm) m0 u0 l0) (.inr "java/lang/IndexOutOfBoundsException") (hp o0 (ar T K os sc) (te_ tc tp tl_ tn trd tv tdg tf tla) (pl pg ph pc pm) m0 u0 l0) 1 6 := by
  obtain ⟨⟨hnv, h12⟩, ⟨hnc, h4⟩, ⟨hnr, h3⟩, ⟨hne, h60⟩, hLT, hHT⟩ := id hT
  refine CT.of (L := [some (.ref 4096), some (.int (x)), some (.int (y))]) rfl rfl ?_
  refine AR.run g_X4_reject_0_2 2 [some (.ref 4096), some (.int (x)), some (.int (y))] [.int (x), .ref 4096] _ [] rfl trivial ?_
  exact AR.end' rfl rfl (AR.room (by omega) (by omega) (AR.callVx (4096) [.int (x)] [] lk_4_77 dc_X4_reject_2 rfl rfl (s_4requireVolumeB _ x (by assumption) (by omega) (by assumption)) (by first | rfl | (simp only [nI_add, pk_mul]; first | done | rfl)) rfl rfl))
theorem g_X4_reject_5_5 : ab_oks M_X4_reject [(5, .iload_n 2, 1, 2, 0, 0, .null), (6, .aload_n 0, 1, 0, 0, 0, .null), (7, .getfield 10, 3, 4, 0, 171, .null), (10, .iload_n 1, 1, 1, 0, 0, .null), (11, .iconst 2, 1, 0, 0, 0, .int (nI (2)))] = true := by decide +kernel
theorem lk_4_110 : ab_lkV "LeafCradles" 110 M_X0_volumeFact 2 [345, 273, 274, 30, 275] = true := by decide +kernel
theorem dc_X4_reject_12 : decode (AM.bytes M_X4_reject) 12 = .ok (.invokevirtual 110, 3) := by decide +kernel
theorem dc_X4_reject_15 : decode (AM.bytes M_X4_reject) 15 = .ok (.invokestatic 64, 3) := by decide +kernel
set_option maxRecDepth 100000 in
set_option maxHeartbeats 4000000 in
theorem s_4rejectB {E : AE} (d : Nat) (v : Nat) (x : Int32) {nv : Nat} {nc : Nat} {nr : Nat} {ne : Nat}  {o0 m0 u0 l0 : List AC} {T K : Nat → Nat → Int32} {os sc : Int32} {tc tp : Nat → Int32} {tl_ tn trd tv tdg tf tla : Int32} {pg ph pc : Nat → Int32} {pm : Int32} (hT : TI T nv nc nr ne) (hv : v < nv) (hbad : ¬ ∃ q9 : Nat, q9 < lt T v ∧ x = nI q9) (hex : E.ex = false) : CT E M_X4_reject (d + 4) [.ref 4096, .int (nI (v)), .int (x)] (hp o0 (ar T K os sc) (te_ tc tp tl_ tn trd tv tdg tf tla) (pl pg ph pc pm) m0 u0 l0) (.inr "java/lang/IndexOutOfBoundsException") (hp o0 (ar T K os sc) (te_ tc tp tl_ tn trd tv tdg tf tla) (pl pg ph pc pm) m0 u0 l0) 1 6 := by
  obtain ⟨⟨hnv, h12⟩, ⟨hnc, h4⟩, ⟨hnr, h3⟩, ⟨hne, h60⟩, hLT, hHT⟩ := id hT
  have ht40 := (hLT v (by omega)).2
  refine CT.of (L := [some (.ref 4096), some (.int (nI (v))), some (.int (x))]) rfl rfl ?_
  refine AR.run g_X4_reject_0_2 2 [some (.ref 4096), some (.int (nI (v))), some (.int (x))] [.int (nI (v)), .ref 4096] _ [] rfl trivial ?_
  refine AR.callV0 (4096) [.int (nI (v))] [] lk_4_77 dc_X4_reject_2 rfl rfl (s_4requireVolumeO _ v (by assumption) (by omega)) (by first | rfl | (simp only [nI_add, pk_mul]; first | done | rfl)) rfl ?_
  refine AR.run g_X4_reject_5_5 12 [some (.ref 4096), some (.int (nI (v))), some (.int (x))] [.int (nI (2)), .int (nI (v)), .ref 4097, .int (x)] _ [] rfl trivial ?_
  refine AR.callV1 (4097) [.int (nI (v)), .int (nI (2))] [.int (x)] lk_4_110 dc_X4_reject_12 rfl rfl (s_0volumeFact _ v 2 (by omega) (by first | assumption | exact (hLT v (by omega)).1) (by first | assumption | exact (hLT v (by omega)).2) (by omega)) (by first | rfl | (simp only [nI_add, pk_mul]; first | done | rfl)) rfl ?_
  refine AR.top (vf2 (hLT v (by omega))) ?_
  exact AR.end' rfl rfl (AR.room (by omega) (by omega) (AR.callSx [.int (x), .int (nI ((lt T v)))] [] lk_4_64 dc_X4_reject_15 (s_4requireIndexB _ x (lt T v) (by assumption) (by omega) (by assumption)) (by first | rfl | (simp only [nI_add, pk_mul]; first | done | rfl)) rfl rfl))
theorem g_X4_leaf_0_2 : ab_oks M_X4_leaf [(0, .aload_n 0, 1, 0, 0, 0, .null), (1, .iload_n 1, 1, 1, 0, 0, .null)] = true := by decide +kernel
theorem dc_X4_leaf_2 : decode (AM.bytes M_X4_leaf) 2 = .ok (.invokevirtual 77, 3) := by decide +kernel
set_option maxRecDepth 100000 in
set_option maxHeartbeats 4000000 in
theorem s_4leafA {E : AE} (d : Nat) (x : Int32) (y : Int32) (w : Int32) {nv : Nat} {nc : Nat} {nr : Nat} {ne : Nat}  {o0 m0 u0 l0 : List AC} {T K : Nat → Nat → Int32} {os sc : Int32} {tc tp : Nat → Int32} {tl_ tn trd tv tdg tf tla : Int32} {pg ph pc : Nat → Int32} {pm : Int32} (hT : TI T nv nc nr ne) (hbad : ¬ ∃ q9 : Nat, q9 < nv ∧ x = nI q9) (hex : E.ex = false) : CT E M_X4_leaf (d + 4) [.ref 4096, .int (x), .int (y), .int (w)] (hp o0 (ar T K os sc) (te_ tc tp tl_ tn trd tv tdg tf tla) (pl pg ph pc pm) m0 u0 l0) (.inr "java/lang/IndexOutOfBoundsException") (hp o0 (ar T K os sc) (te_ tc tp tl_ tn trd tv tdg tf tla) (pl pg ph pc pm) m0 u0 l0) 1 6 := by
  obtain ⟨⟨hnv, h12⟩, ⟨hnc, h4⟩, ⟨hnr, h3⟩, ⟨hne, h60⟩, hLT, hHT⟩ := id hT
  refine CT.of (L := [some (.ref 4096), some (.int (x)), some (.int (y)), some (.int (w))]) rfl rfl ?_
  refine AR.run g_X4_leaf_0_2 2 [some (.ref 4096), some (.int (x)), some (.int (y)), some (.int (w))] [.int (x), .ref 4096] _ [] rfl trivial ?_
  exact AR.end' rfl rfl (AR.room (by omega) (by omega) (AR.callVx (4096) [.int (x)] [] lk_4_77 dc_X4_leaf_2 rfl rfl (s_4requireVolumeB _ x (by assumption) (by omega) (by assumption)) (by first | rfl | (simp only [nI_add, pk_mul]; first | done | rfl)) rfl rfl))
theorem g_X4_leaf_5_5 : ab_oks M_X4_leaf [(5, .iload_n 2, 1, 2, 0, 0, .null), (6, .aload_n 0, 1, 0, 0, 0, .null), (7, .getfield 10, 3, 4, 0, 171, .null), (10, .iload_n 1, 1, 1, 0, 0, .null), (11, .iconst 2, 1, 0, 0, 0, .int (nI (2)))] = true := by decide +kernel
theorem dc_X4_leaf_12 : decode (AM.bytes M_X4_leaf) 12 = .ok (.invokevirtual 110, 3) := by decide +kernel
theorem dc_X4_leaf_15 : decode (AM.bytes M_X4_leaf) 15 = .ok (.invokestatic 64, 3) := by decide +kernel
set_option maxRecDepth 100000 in
set_option maxHeartbeats 4000000 in
theorem s_4leafB {E : AE} (d : Nat) (v : Nat) (x : Int32) (w : Int32) {nv : Nat} {nc : Nat} {nr : Nat} {ne : Nat}  {o0 m0 u0 l0 : List AC} {T K : Nat → Nat → Int32} {os sc : Int32} {tc tp : Nat → Int32} {tl_ tn trd tv tdg tf tla : Int32} {pg ph pc : Nat → Int32} {pm : Int32} (hT : TI T nv nc nr ne) (hv : v < nv) (hbad : ¬ ∃ q9 : Nat, q9 < lt T v ∧ x = nI q9) (hex : E.ex = false) : CT E M_X4_leaf (d + 4) [.ref 4096, .int (nI (v)), .int (x), .int (w)] (hp o0 (ar T K os sc) (te_ tc tp tl_ tn trd tv tdg tf tla) (pl pg ph pc pm) m0 u0 l0) (.inr "java/lang/IndexOutOfBoundsException") (hp o0 (ar T K os sc) (te_ tc tp tl_ tn trd tv tdg tf tla) (pl pg ph pc pm) m0 u0 l0) 1 6 := by
  obtain ⟨⟨hnv, h12⟩, ⟨hnc, h4⟩, ⟨hnr, h3⟩, ⟨hne, h60⟩, hLT, hHT⟩ := id hT
  have ht40 := (hLT v (by omega)).2
  refine CT.of (L := [some (.ref 4096), some (.int (nI (v))), some (.int (x)), some (.int (w))]) rfl rfl ?_
  refine AR.run g_X4_leaf_0_2 2 [some (.ref 4096), some (.int (nI (v))), some (.int (x)), some (.int (w))] [.int (nI (v)), .ref 4096] _ [] rfl trivial ?_
  refine AR.callV0 (4096) [.int (nI (v))] [] lk_4_77 dc_X4_leaf_2 rfl rfl (s_4requireVolumeO _ v (by assumption) (by omega)) (by first | rfl | (simp only [nI_add, pk_mul]; first | done | rfl)) rfl ?_
  refine AR.run g_X4_leaf_5_5 12 [some (.ref 4096), some (.int (nI (v))), some (.int (x)), some (.int (w))] [.int (nI (2)), .int (nI (v)), .ref 4097, .int (x)] _ [] rfl trivial ?_
  refine AR.callV1 (4097) [.int (nI (v)), .int (nI (2))] [.int (x)] lk_4_110 dc_X4_leaf_12 rfl rfl (s_0volumeFact _ v 2 (by omega) (by first | assumption | exact (hLT v (by omega)).1) (by first | assumption | exact (hLT v (by omega)).2) (by omega)) (by first | rfl | (simp only [nI_add, pk_mul]; first | done | rfl)) rfl ?_
  refine AR.top (vf2 (hLT v (by omega))) ?_
  exact AR.end' rfl rfl (AR.room (by omega) (by omega) (AR.callSx [.int (x), .int (nI ((lt T v)))] [] lk_4_64 dc_X4_leaf_15 (s_4requireIndexB _ x (lt T v) (by assumption) (by omega) (by assumption)) (by first | rfl | (simp only [nI_add, pk_mul]; first | done | rfl)) rfl rfl))
theorem g_X4_leaf_18_3 : ab_oks M_X4_leaf [(18, .iload_n 3, 1, 3, 0, 0, .null), (19, .iconst 0, 1, 0, 0, 0, .int (nI (0))), (20, .iconst 3, 1, 0, 0, 0, .int (nI (3)))] = true := by decide +kernel
theorem dc_X4_leaf_21 : decode (AM.bytes M_X4_leaf) 21 = .ok (.invokestatic 30, 3) := by decide +kernel
set_option maxRecDepth 100000 in
set_option maxHeartbeats 4000000 in
theorem s_4leafC {E : AE} (d : Nat) (v : Nat) (k : Nat) (w : Int32) {nv : Nat} {nc : Nat} {nr : Nat} {ne : Nat}  {o0 m0 u0 l0 : List AC} {T K : Nat → Nat → Int32} {os sc : Int32} {tc tp : Nat → Int32} {tl_ tn trd tv tdg tf tla : Int32} {pg ph pc : Nat → Int32} {pm : Int32} (hT : TI T nv nc nr ne) (hv : v < nv) (hk : k < lt T v) (hx : wi w (nI 0) (nI 3) = 0) (hex : E.ex = false) : CT E M_X4_leaf (d + 4) [.ref 4096, .int (nI (v)), .int (nI (k)), .int (w)] (hp o0 (ar T K os sc) (te_ tc tp tl_ tn trd tv tdg tf tla) (pl pg ph pc pm) m0 u0 l0) (.inr "java/lang/IllegalArgumentException") (hp o0 (ar T K os sc) (te_ tc tp tl_ tn trd tv tdg tf tla) (pl pg ph pc pm) m0 u0 l0) 1 6 := by
  obtain ⟨⟨hnv, h12⟩, ⟨hnc, h4⟩, ⟨hnr, h3⟩, ⟨hne, h60⟩, hLT, hHT⟩ := id hT
  have ht40 := (hLT v (by omega)).2
  refine CT.of (L := [some (.ref 4096), some (.int (nI (v))), some (.int (nI (k))), some (.int (w))]) rfl rfl ?_
  refine AR.run g_X4_leaf_0_2 2 [some (.ref 4096), some (.int (nI (v))), some (.int (nI (k))), some (.int (w))] [.int (nI (v)), .ref 4096] _ [] rfl trivial ?_
  refine AR.callV0 (4096) [.int (nI (v))] [] lk_4_77 dc_X4_leaf_2 rfl rfl (s_4requireVolumeO _ v (by assumption) (by omega)) (by first | rfl | (simp only [nI_add, pk_mul]; first | done | rfl)) rfl ?_
  refine AR.run g_X4_leaf_5_5 12 [some (.ref 4096), some (.int (nI (v))), some (.int (nI (k))), some (.int (w))] [.int (nI (2)), .int (nI (v)), .ref 4097, .int (nI (k))] _ [] rfl trivial ?_
  refine AR.callV1 (4097) [.int (nI (v)), .int (nI (2))] [.int (nI (k))] lk_4_110 dc_X4_leaf_12 rfl rfl (s_0volumeFact _ v 2 (by omega) (by first | assumption | exact (hLT v (by omega)).1) (by first | assumption | exact (hLT v (by omega)).2) (by omega)) (by first | rfl | (simp only [nI_add, pk_mul]; first | done | rfl)) rfl ?_
  refine AR.top (vf2 (hLT v (by omega))) ?_
  refine AR.callS0 [.int (nI (k)), .int (nI ((lt T v)))] [] lk_4_64 dc_X4_leaf_15 (s_4requireIndexO _ k (lt T v) (by omega) (by omega)) (by first | rfl | (simp only [nI_add, pk_mul]; first | done | rfl)) rfl ?_
  refine AR.run g_X4_leaf_18_3 21 [some (.ref 4096), some (.int (nI (v))), some (.int (nI (k))), some (.int (w))] [.int (nI (3)), .int (nI (0)), .int (w)] _ [] rfl trivial ?_
  exact AR.end' rfl rfl (AR.room (by omega) (by omega) (AR.callSx [.int (w), .int (nI (0)), .int (nI (3))] [] lk_4_30 dc_X4_leaf_21 (s_4requireRangeB _ w (nI (0)) (nI (3)) (by assumption) (by assumption)) (by first | rfl | (simp only [nI_add, pk_mul]; first | done | rfl)) rfl rfl))
theorem g_X4_leaf_24_5 : ab_oks M_X4_leaf [(24, .aload_n 0, 1, 0, 0, 0, .null), (25, .getfield 10, 3, 4, 0, 171, .null), (28, .iload_n 1, 1, 1, 0, 0, .null), (29, .iload_n 2, 1, 2, 0, 0, .null), (30, .iload_n 3, 1, 3, 0, 0, .null)] = true := by decide +kernel
theorem lk_4_113 : ab_lkV "LeafCradles" 113 M_X0_leafFact 3 [346, 347, 348, 30, 349] = true := by decide +kernel
theorem dc_X4_leaf_31 : decode (AM.bytes M_X4_leaf) 31 = .ok (.invokevirtual 113, 3) := by decide +kernel
theorem dc_X4_leaf_34 : decode (AM.bytes M_X4_leaf) 34 = .ok (.ireturn, 1) := by decide +kernel
set_option maxRecDepth 100000 in
set_option maxHeartbeats 4000000 in
theorem s_4leaf {E : AE} (d : Nat) (v : Nat) (k : Nat) (w : Nat) {nv : Nat} {nc : Nat} {nr : Nat} {ne : Nat}  {o0 m0 u0 l0 : List AC} {T K : Nat → Nat → Int32} {os sc : Int32} {tc tp : Nat → Int32} {tl_ tn trd tv tdg tf tla : Int32} {pg ph pc : Nat → Int32} {pm : Int32} (hT : TI T nv nc nr ne) (hv : v < nv) (hk : k < lt T v) (hw : w < 4) : CT E M_X4_leaf (d + 4) [.ref 4096, .int (nI (v)), .int (nI (k)), .int (nI (w))] (hp o0 (ar T K os sc) (te_ tc tp tl_ tn trd tv tdg tf tla) (pl pg ph pc pm) m0 u0 l0) (.inl (some (.int (F_0leafFact v k w T)))) (hp o0 (ar T K os sc) (te_ tc tp tl_ tn trd tv tdg tf tla) (pl pg ph pc pm) m0 u0 l0) 0 0 := by
  obtain ⟨⟨hnv, h12⟩, ⟨hnc, h4⟩, ⟨hnr, h3⟩, ⟨hne, h60⟩, hLT, hHT⟩ := id hT
  have ht40 := (hLT v (by omega)).2
  refine CT.of (L := [some (.ref 4096), some (.int (nI (v))), some (.int (nI (k))), some (.int (nI (w)))]) rfl rfl ?_
  refine AR.run g_X4_leaf_0_2 2 [some (.ref 4096), some (.int (nI (v))), some (.int (nI (k))), some (.int (nI (w)))] [.int (nI (v)), .ref 4096] _ [] rfl trivial ?_
  refine AR.callV0 (4096) [.int (nI (v))] [] lk_4_77 dc_X4_leaf_2 rfl rfl (s_4requireVolumeO _ v (by assumption) (by omega)) (by first | rfl | (simp only [nI_add, pk_mul]; first | done | rfl)) rfl ?_
  refine AR.run g_X4_leaf_5_5 12 [some (.ref 4096), some (.int (nI (v))), some (.int (nI (k))), some (.int (nI (w)))] [.int (nI (2)), .int (nI (v)), .ref 4097, .int (nI (k))] _ [] rfl trivial ?_
  refine AR.callV1 (4097) [.int (nI (v)), .int (nI (2))] [.int (nI (k))] lk_4_110 dc_X4_leaf_12 rfl rfl (s_0volumeFact _ v 2 (by omega) (by first | assumption | exact (hLT v (by omega)).1) (by first | assumption | exact (hLT v (by omega)).2) (by omega)) (by first | rfl | (simp only [nI_add, pk_mul]; first | done | rfl)) rfl ?_
  refine AR.top (vf2 (hLT v (by omega))) ?_
  refine AR.callS0 [.int (nI (k)), .int (nI ((lt T v)))] [] lk_4_64 dc_X4_leaf_15 (s_4requireIndexO _ k (lt T v) (by omega) (by omega)) (by first | rfl | (simp only [nI_add, pk_mul]; first | done | rfl)) rfl ?_
  refine AR.run g_X4_leaf_18_3 21 [some (.ref 4096), some (.int (nI (v))), some (.int (nI (k))), some (.int (nI (w)))] [.int (nI (3)), .int (nI (0)), .int (nI (w))] _ [] rfl trivial ?_
  refine AR.callS0 [.int (nI (w)), .int (nI (0)), .int (nI (3))] [] lk_4_30 dc_X4_leaf_21 (s_4requireRangeO _ (nI (w)) (nI (0)) (nI (3)) (by first | assumption | exact wi_in (by omega) (by omega) (by decide))) (by first | rfl | (simp only [nI_add, pk_mul]; first | done | rfl)) rfl ?_
  refine AR.run g_X4_leaf_24_5 31 [some (.ref 4096), some (.int (nI (v))), some (.int (nI (k))), some (.int (nI (w)))] [.int (nI (w)), .int (nI (k)), .int (nI (v)), .ref 4097] _ [] rfl trivial ?_
  refine AR.callV1 (4097) [.int (nI (v)), .int (nI (k)), .int (nI (w))] [] lk_4_113 dc_X4_leaf_31 rfl rfl (s_0leafFact _ v k w (by omega) (by omega) (by omega)) (by first | rfl | (simp only [nI_add, pk_mul]; first | done | rfl)) rfl ?_
  exact AR.retI dc_X4_leaf_34 rfl rfl rfl
theorem g_X4_reject_18_5 : ab_oks M_X4_reject [(18, .aload_n 0, 1, 0, 0, 0, .null), (19, .getfield 10, 3, 4, 0, 171, .null), (22, .iload_n 1, 1, 1, 0, 0, .null), (23, .iload_n 2, 1, 2, 0, 0, .null), (24, .iconst 0, 1, 0, 0, 0, .int (nI (0)))] = true := by decide +kernel
theorem dc_X4_reject_25 : decode (AM.bytes M_X4_reject) 25 = .ok (.invokevirtual 113, 3) := by decide +kernel
theorem g_X4_reject_28_1 : ab_oks M_X4_reject [(28, .iconst 1, 1, 0, 0, 0, .int (nI (1)))] = true := by decide +kernel
theorem dc_X4_reject_29 : decode (AM.bytes M_X4_reject) 29 = .ok (.if_icmp .eq 13, 3) := by decide +kernel
theorem dc_X4_reject_32 : decode (AM.bytes M_X4_reject) 32 = .ok (.new 38, 3) := by decide +kernel
theorem dc_X4_reject_35 : decode (AM.bytes M_X4_reject) 35 = .ok (.dup, 1) := by decide +kernel
theorem dc_X4_reject_36 : decode (AM.bytes M_X4_reject) 36 = .ok (.ldc 116, 2) := by decide +kernel
theorem dc_X4_reject_38 : decode (AM.bytes M_X4_reject) 38 = .ok (.invokespecial 42, 3) := by decide +kernel
theorem dc_X4_reject_41 : decode (AM.bytes M_X4_reject) 41 = .ok (.athrow, 1) := by decide +kernel
set_option maxRecDepth 100000 in
set_option maxHeartbeats 4000000 in
theorem s_4rejectE {E : AE} (d : Nat) (v : Nat) (k : Nat) {nv : Nat} {nc : Nat} {nr : Nat} {ne : Nat}  {o0 m0 u0 l0 : List AC} {T K : Nat → Nat → Int32} {os sc : Int32} {tc tp : Nat → Int32} {tl_ tn trd tv tdg tf tla : Int32} {pg ph pc : Nat → Int32} {pm : Int32} (hT : TI T nv nc nr ne) (hv : v < nv) (hk : k < lt T v) (he : ¬ F_0leafFact v k 0 T = nI 1) (hex : E.ex = false) : CT E M_X4_reject (d + 4) [.ref 4096, .int (nI (v)), .int (nI (k))] (hp o0 (ar T K os sc) (te_ tc tp tl_ tn trd tv tdg tf tla) (pl pg ph pc pm) m0 u0 l0) (.inr "java/lang/IllegalStateException") (hp o0 (ar T K os sc) (te_ tc tp tl_ tn trd tv tdg tf tla) (pl pg ph pc pm) m0 u0 l0) 1 6 := by
  obtain ⟨⟨hnv, h12⟩, ⟨hnc, h4⟩, ⟨hnr, h3⟩, ⟨hne, h60⟩, hLT, hHT⟩ := id hT
  have ht40 := (hLT v (by omega)).2
  refine CT.of (L := [some (.ref 4096), some (.int (nI (v))), some (.int (nI (k)))]) rfl rfl ?_
  refine AR.run g_X4_reject_0_2 2 [some (.ref 4096), some (.int (nI (v))), some (.int (nI (k)))] [.int (nI (v)), .ref 4096] _ [] rfl trivial ?_
  refine AR.callV0 (4096) [.int (nI (v))] [] lk_4_77 dc_X4_reject_2 rfl rfl (s_4requireVolumeO _ v (by assumption) (by omega)) (by first | rfl | (simp only [nI_add, pk_mul]; first | done | rfl)) rfl ?_
  refine AR.run g_X4_reject_5_5 12 [some (.ref 4096), some (.int (nI (v))), some (.int (nI (k)))] [.int (nI (2)), .int (nI (v)), .ref 4097, .int (nI (k))] _ [] rfl trivial ?_
  refine AR.callV1 (4097) [.int (nI (v)), .int (nI (2))] [.int (nI (k))] lk_4_110 dc_X4_reject_12 rfl rfl (s_0volumeFact _ v 2 (by omega) (by first | assumption | exact (hLT v (by omega)).1) (by first | assumption | exact (hLT v (by omega)).2) (by omega)) (by first | rfl | (simp only [nI_add, pk_mul]; first | done | rfl)) rfl ?_
  refine AR.top (vf2 (hLT v (by omega))) ?_
  refine AR.callS0 [.int (nI (k)), .int (nI ((lt T v)))] [] lk_4_64 dc_X4_reject_15 (s_4requireIndexO _ k (lt T v) (by omega) (by omega)) (by first | rfl | (simp only [nI_add, pk_mul]; first | done | rfl)) rfl ?_
  refine AR.run g_X4_reject_18_5 25 [some (.ref 4096), some (.int (nI (v))), some (.int (nI (k)))] [.int (nI (0)), .int (nI (k)), .int (nI (v)), .ref 4097] _ [] rfl trivial ?_
  refine AR.callV1 (4097) [.int (nI (v)), .int (nI (k)), .int (nI (0))] [] lk_4_113 dc_X4_reject_25 rfl rfl (s_0leafFact _ v k 0 (by omega) (by omega) (by omega)) (by first | rfl | (simp only [nI_add, pk_mul]; first | done | rfl)) rfl ?_
  refine AR.run g_X4_reject_28_1 29 [some (.ref 4096), some (.int (nI (v))), some (.int (nI (k)))] [.int (nI (1)), .int (F_0leafFact v k 0 T)] _ [] rfl trivial ?_
  refine AR.eq2 (tgt := 42) dc_X4_reject_29 (by decide) (fun c29_1 => absurd c29_1 he) (fun c29_1 => ?_)
  exact AR.room (by omega) (by omega) (AR.throwS (text := "the leaf is not good") (by assumption) rfl rfl ab_thrOk_42 th_38_42a th_38_42b (by simp [ab_strs]) dc_X4_reject_32 dc_X4_reject_35 dc_X4_reject_36 dc_X4_reject_38 dc_X4_reject_41 rfl)
def F_4reject (v : Nat) (k : Nat) (T : Nat → Nat → Int32) : Int32 := (F_0findFaulty v k T)
def F_4reject_T (v : Nat) (k : Nat) (T : Nat → Nat → Int32) : Nat → Nat → Int32 := (F_0findFaulty_T v k T)
def F_4reject_K (a : Nat) (b : Nat) (T : Nat → Nat → Int32) (K : Nat → Nat → Int32) : Nat → Nat → Int32 := (F_0save_K a b T K)
def F_4reject_os (a : Nat) (b : Nat) (os : Int32) : Int32 := (F_0save_os a b os)
def F_4reject_sc (b : Nat) (sc : Int32) : Int32 := (F_0save_sc b sc)
theorem g_X4_reject_42_2 : ab_oks M_X4_reject [(42, .aload_n 0, 1, 0, 0, 0, .null), (43, .getfield 10, 3, 4, 0, 171, .null)] = true := by decide +kernel
theorem dc_X4_reject_46 : decode (AM.bytes M_X4_reject) 46 = .ok (.invokevirtual 45, 3) := by decide +kernel
theorem g_X4_reject_49_4 : ab_oks M_X4_reject [(49, .aload_n 0, 1, 0, 0, 0, .null), (50, .getfield 10, 3, 4, 0, 171, .null), (53, .iload_n 1, 1, 1, 0, 0, .null), (54, .iload_n 2, 1, 2, 0, 0, .null)] = true := by decide +kernel
theorem lk_4_118 : ab_lkV "LeafCradles" 118 M_X0_findFaulty 2 [661, 662, 663, 30, 664] = true := by decide +kernel
theorem dc_X4_reject_55 : decode (AM.bytes M_X4_reject) 55 = .ok (.invokevirtual 118, 3) := by decide +kernel
theorem dc_X4_reject_58 : decode (AM.bytes M_X4_reject) 58 = .ok (.ireturn, 1) := by decide +kernel
set_option maxRecDepth 100000 in
set_option maxHeartbeats 4000000 in
theorem s_4reject {E : AE} (d : Nat) (v : Nat) (k : Nat) {nv : Nat} {nc : Nat} {nr : Nat} {ne : Nat} {a : Nat} {b : Nat}  {o0 m0 u0 l0 : List AC} {T K : Nat → Nat → Int32} {os sc : Int32} {tc tp : Nat → Int32} {tl_ tn trd tv tdg tf tla : Int32} {pg ph pc : Nat → Int32} {pm : Int32} (hT : TI T nv nc nr ne) (hos : os = nI a) (ha : a < 6) (hsc : sc = nI b) (hb : b ≤ 6) (hv : v < nv) (hk : k < lt T v) (he : F_0leafFact v k 0 T = nI 1) : CT E M_X4_reject (d + 4) [.ref 4096, .int (nI (v)), .int (nI (k))] (hp o0 (ar T K os sc) (te_ tc tp tl_ tn trd tv tdg tf tla) (pl pg ph pc pm) m0 u0 l0) (.inl (some (.int (F_4reject v k T)))) (hp o0 (ar (F_4reject_T v k T) (F_4reject_K a b T K) (F_4reject_os a b os) (F_4reject_sc b sc)) (te_ tc tp tl_ tn trd tv tdg tf tla) (pl pg ph pc pm) m0 u0 l0) 0 0 := by
  obtain ⟨⟨hnv, h12⟩, ⟨hnc, h4⟩, ⟨hnr, h3⟩, ⟨hne, h60⟩, hLT, hHT⟩ := id hT
  have ht40 := (hLT v (by omega)).2
  refine CT.of (L := [some (.ref 4096), some (.int (nI (v))), some (.int (nI (k)))]) rfl rfl ?_
  refine AR.run g_X4_reject_0_2 2 [some (.ref 4096), some (.int (nI (v))), some (.int (nI (k)))] [.int (nI (v)), .ref 4096] _ [] rfl trivial ?_
  refine AR.callV0 (4096) [.int (nI (v))] [] lk_4_77 dc_X4_reject_2 rfl rfl (s_4requireVolumeO _ v (by assumption) (by omega)) (by first | rfl | (simp only [nI_add, pk_mul]; first | done | rfl)) rfl ?_
  refine AR.run g_X4_reject_5_5 12 [some (.ref 4096), some (.int (nI (v))), some (.int (nI (k)))] [.int (nI (2)), .int (nI (v)), .ref 4097, .int (nI (k))] _ [] rfl trivial ?_
  refine AR.callV1 (4097) [.int (nI (v)), .int (nI (2))] [.int (nI (k))] lk_4_110 dc_X4_reject_12 rfl rfl (s_0volumeFact _ v 2 (by omega) (by first | assumption | exact (hLT v (by omega)).1) (by first | assumption | exact (hLT v (by omega)).2) (by omega)) (by first | rfl | (simp only [nI_add, pk_mul]; first | done | rfl)) rfl ?_
  refine AR.top (vf2 (hLT v (by omega))) ?_
  refine AR.callS0 [.int (nI (k)), .int (nI ((lt T v)))] [] lk_4_64 dc_X4_reject_15 (s_4requireIndexO _ k (lt T v) (by omega) (by omega)) (by first | rfl | (simp only [nI_add, pk_mul]; first | done | rfl)) rfl ?_
  refine AR.run g_X4_reject_18_5 25 [some (.ref 4096), some (.int (nI (v))), some (.int (nI (k)))] [.int (nI (0)), .int (nI (k)), .int (nI (v)), .ref 4097] _ [] rfl trivial ?_
  refine AR.callV1 (4097) [.int (nI (v)), .int (nI (k)), .int (nI (0))] [] lk_4_113 dc_X4_reject_25 rfl rfl (s_0leafFact _ v k 0 (by omega) (by omega) (by omega)) (by first | rfl | (simp only [nI_add, pk_mul]; first | done | rfl)) rfl ?_
  refine AR.run g_X4_reject_28_1 29 [some (.ref 4096), some (.int (nI (v))), some (.int (nI (k)))] [.int (nI (1)), .int (F_0leafFact v k 0 T)] _ [] rfl trivial ?_
  refine AR.eq2 (tgt := 42) dc_X4_reject_29 (by decide) (fun c29_1 => ?_) (fun c29_1 => absurd c29_1 (fun q => q he))
  refine AR.run g_X4_reject_42_2 46 [some (.ref 4096), some (.int (nI (v))), some (.int (nI (k)))] [.ref 4097] _ [] rfl trivial ?_
  refine AR.callV0 (4097) [] [] lk_4_45 dc_X4_reject_46 rfl rfl (s_0save _  (by assumption) (by omega) (by assumption) (by omega)) (by first | rfl | (simp only [nI_add, pk_mul]; first | done | rfl)) rfl ?_
  refine AR.run g_X4_reject_49_4 55 [some (.ref 4096), some (.int (nI (v))), some (.int (nI (k)))] [.int (nI (k)), .int (nI (v)), .ref 4097] _ [] rfl trivial ?_
  refine AR.callV1 (4097) [.int (nI (v)), .int (nI (k))] [] lk_4_118 dc_X4_reject_55 rfl rfl (s_0findFaulty _ v k (by omega) (by omega) (by first | assumption | exact hLT _ (by omega))) (by first | rfl | (simp only [nI_add, pk_mul]; first | done | rfl)) rfl ?_
  have e2_0 : F_4reject v k T = (F_0findFaulty v k T) := by rw [F_4reject]
  have e2_1 : F_4reject_T v k T = (F_0findFaulty_T v k T) := by rw [F_4reject_T]
  have e2_2 : F_4reject_K a b T K = (F_0save_K a b T K) := by rw [F_4reject_K]
  have e2_3 : F_4reject_os a b os = (F_0save_os a b os) := by rw [F_4reject_os]
  have e2_4 : F_4reject_sc b sc = (F_0save_sc b sc) := by rw [F_4reject_sc]
  exact AR.retI dc_X4_reject_58 rfl e2_0.symm (by rw [e2_1, e2_2, e2_3, e2_4])
theorem g_X4_append_0_3 : ab_oks M_X4_append [(0, .iload_n 1, 1, 1, 0, 0, .null), (1, .bipush 33, 2, 0, 0, 0, .int (nI (33))), (3, .bipush 126, 2, 0, 0, 0, .int (nI (126)))] = true := by decide +kernel
theorem dc_X4_append_5 : decode (AM.bytes M_X4_append) 5 = .ok (.invokestatic 30, 3) := by decide +kernel
set_option maxRecDepth 100000 in
set_option maxHeartbeats 4000000 in
theorem s_4appendA {E : AE} (d : Nat) (c : Int32)  {o0 m0 u0 l0 : List AC} {T K : Nat → Nat → Int32} {os sc : Int32} {tc tp : Nat → Int32} {tl_ tn trd tv tdg tf tla : Int32} {pg ph pc : Nat → Int32} {pm : Int32} (hx : wi c (nI 33) (nI 126) = 0) (hex : E.ex = false) : CT E M_X4_append (d + 1) [.ref 4096, .int (c)] (hp o0 (ar T K os sc) (te_ tc tp tl_ tn trd tv tdg tf tla) (pl pg ph pc pm) m0 u0 l0) (.inr "java/lang/IllegalArgumentException") (hp o0 (ar T K os sc) (te_ tc tp tl_ tn trd tv tdg tf tla) (pl pg ph pc pm) m0 u0 l0) 1 6 := by
  refine CT.of (L := [some (.ref 4096), some (.int (c))]) rfl rfl ?_
  refine AR.run g_X4_append_0_3 5 [some (.ref 4096), some (.int (c))] [.int (nI (126)), .int (nI (33)), .int (c)] _ [] rfl trivial ?_
  exact AR.end' rfl rfl (AR.room (by omega) (by omega) (AR.callSx [.int (c), .int (nI (33)), .int (nI (126))] [] lk_4_30 dc_X4_append_5 (s_4requireRangeB _ c (nI (33)) (nI (126)) (by assumption) (by assumption)) (by first | rfl | (simp only [nI_add, pk_mul]; first | done | rfl)) rfl rfl))
theorem g_X4_append_8_2 : ab_oks M_X4_append [(8, .aload_n 0, 1, 0, 0, 0, .null), (9, .getfield 19, 3, 4, 1, 172, .null)] = true := by decide +kernel
theorem lk_4_121 : ab_lkV "LeafCradles" 121 M_X1_length 0 [680, 681, 682, 33, 683] = true := by decide +kernel
theorem dc_X4_append_12 : decode (AM.bytes M_X4_append) 12 = .ok (.invokevirtual 121, 3) := by decide +kernel
theorem g_X4_append_15_1 : ab_oks M_X4_append [(15, .bipush 60, 2, 0, 0, 0, .int (nI (60)))] = true := by decide +kernel
theorem dc_X4_append_17 : decode (AM.bytes M_X4_append) 17 = .ok (.if_icmp .lt 13, 3) := by decide +kernel
theorem dc_X4_append_20 : decode (AM.bytes M_X4_append) 20 = .ok (.new 38, 3) := by decide +kernel
theorem dc_X4_append_23 : decode (AM.bytes M_X4_append) 23 = .ok (.dup, 1) := by decide +kernel
theorem dc_X4_append_24 : decode (AM.bytes M_X4_append) 24 = .ok (.ldc 124, 2) := by decide +kernel
theorem dc_X4_append_26 : decode (AM.bytes M_X4_append) 26 = .ok (.invokespecial 42, 3) := by decide +kernel
theorem dc_X4_append_29 : decode (AM.bytes M_X4_append) 29 = .ok (.athrow, 1) := by decide +kernel
set_option maxRecDepth 100000 in
set_option maxHeartbeats 4000000 in
theorem s_4appendE {E : AE} (d : Nat) (c : Int32) {q : Nat}  {o0 m0 u0 l0 : List AC} {T K : Nat → Nat → Int32} {os sc : Int32} {tc tp : Nat → Int32} {tl_ tn trd tv tdg tf tla : Int32} {pg ph pc : Nat → Int32} {pm : Int32} (ho0 : ¬ wi c (nI 33) (nI 126) = 0) (hln : tl_ = nI q) (hq : q = 60) (hex : E.ex = false) : CT E M_X4_append (d + 1) [.ref 4096, .int (c)] (hp o0 (ar T K os sc) (te_ tc tp tl_ tn trd tv tdg tf tla) (pl pg ph pc pm) m0 u0 l0) (.inr "java/lang/IllegalStateException") (hp o0 (ar T K os sc) (te_ tc tp tl_ tn trd tv tdg tf tla) (pl pg ph pc pm) m0 u0 l0) 1 6 := by
  refine CT.of (L := [some (.ref 4096), some (.int (c))]) rfl rfl ?_
  refine AR.run g_X4_append_0_3 5 [some (.ref 4096), some (.int (c))] [.int (nI (126)), .int (nI (33)), .int (c)] _ [] rfl trivial ?_
  refine AR.callS0 [.int (c), .int (nI (33)), .int (nI (126))] [] lk_4_30 dc_X4_append_5 (s_4requireRangeO _ c (nI (33)) (nI (126)) (by assumption)) (by first | rfl | (simp only [nI_add, pk_mul]; first | done | rfl)) rfl ?_
  refine AR.run g_X4_append_8_2 12 [some (.ref 4096), some (.int (c))] [.ref 8192] _ [] rfl trivial ?_
  refine AR.callV1 (8192) [] [] lk_4_121 dc_X4_append_12 rfl rfl (s_1length _  ) (by first | rfl | (simp only [nI_add, pk_mul]; first | done | rfl)) rfl ?_
  refine AR.top hln ?_
  refine AR.run g_X4_append_15_1 17 [some (.ref 4096), some (.int (c))] [.int (nI (60)), .int (nI (q))] _ [] rfl trivial ?_
  refine AR.lt2N (tgt := 30) (a := q) (b := 60) dc_X4_append_17 (by decide) (by first | rfl | (simp only [nI_add, pk_mul]; first | done | rfl)) (by first | rfl | (simp only [nI_add, pk_mul]; first | done | rfl)) (by omega) (by omega) (fun c17_1 => absurd c17_1 (by omega)) (fun c17_1 => ?_)
  exact AR.room (by omega) (by omega) (AR.throwS (text := "the buffer has 60 characters") (by assumption) rfl rfl ab_thrOk_42 th_38_42a th_38_42b (by simp [ab_strs]) dc_X4_append_20 dc_X4_append_23 dc_X4_append_24 dc_X4_append_26 dc_X4_append_29 rfl)
def F_4append (q : Nat) : Int32 := (F_1add q)
def F_4append_tc (c : Int32) (q : Nat) (tc : Nat → Int32) : Nat → Int32 := (F_1add_tc c q tc)
def F_4append_tl_ (q : Nat) (tl_ : Int32) : Int32 := (F_1add_tl_ q tl_)
theorem g_X4_append_30_3 : ab_oks M_X4_append [(30, .aload_n 0, 1, 0, 0, 0, .null), (31, .getfield 19, 3, 4, 1, 172, .null), (34, .iload_n 1, 1, 1, 0, 0, .null)] = true := by decide +kernel
theorem lk_4_126 : ab_lkV "LeafCradles" 126 M_X1_add 1 [685, 686, 687, 33, 688] = true := by decide +kernel
theorem dc_X4_append_35 : decode (AM.bytes M_X4_append) 35 = .ok (.invokevirtual 126, 3) := by decide +kernel
theorem dc_X4_append_38 : decode (AM.bytes M_X4_append) 38 = .ok (.ireturn, 1) := by decide +kernel
set_option maxRecDepth 100000 in
set_option maxHeartbeats 4000000 in
theorem s_4append {E : AE} (d : Nat) (c : Int32) {q : Nat}  {o0 m0 u0 l0 : List AC} {T K : Nat → Nat → Int32} {os sc : Int32} {tc tp : Nat → Int32} {tl_ tn trd tv tdg tf tla : Int32} {pg ph pc : Nat → Int32} {pm : Int32} (ho0 : ¬ wi c (nI 33) (nI 126) = 0) (hln : tl_ = nI q) (hq : q < 60) : CT E M_X4_append (d + 1) [.ref 4096, .int (c)] (hp o0 (ar T K os sc) (te_ tc tp tl_ tn trd tv tdg tf tla) (pl pg ph pc pm) m0 u0 l0) (.inl (some (.int (F_4append q)))) (hp o0 (ar T K os sc) (te_ (F_4append_tc c q tc) tp (F_4append_tl_ q tl_) tn trd tv tdg tf tla) (pl pg ph pc pm) m0 u0 l0) 0 0 := by
  refine CT.of (L := [some (.ref 4096), some (.int (c))]) rfl rfl ?_
  refine AR.run g_X4_append_0_3 5 [some (.ref 4096), some (.int (c))] [.int (nI (126)), .int (nI (33)), .int (c)] _ [] rfl trivial ?_
  refine AR.callS0 [.int (c), .int (nI (33)), .int (nI (126))] [] lk_4_30 dc_X4_append_5 (s_4requireRangeO _ c (nI (33)) (nI (126)) (by assumption)) (by first | rfl | (simp only [nI_add, pk_mul]; first | done | rfl)) rfl ?_
  refine AR.run g_X4_append_8_2 12 [some (.ref 4096), some (.int (c))] [.ref 8192] _ [] rfl trivial ?_
  refine AR.callV1 (8192) [] [] lk_4_121 dc_X4_append_12 rfl rfl (s_1length _  ) (by first | rfl | (simp only [nI_add, pk_mul]; first | done | rfl)) rfl ?_
  refine AR.top hln ?_
  refine AR.run g_X4_append_15_1 17 [some (.ref 4096), some (.int (c))] [.int (nI (60)), .int (nI (q))] _ [] rfl trivial ?_
  refine AR.lt2N (tgt := 30) (a := q) (b := 60) dc_X4_append_17 (by decide) (by first | rfl | (simp only [nI_add, pk_mul]; first | done | rfl)) (by first | rfl | (simp only [nI_add, pk_mul]; first | done | rfl)) (by omega) (by omega) (fun c17_1 => ?_) (fun c17_1 => absurd c17_1 (by omega))
  refine AR.run g_X4_append_30_3 35 [some (.ref 4096), some (.int (c))] [.int (c), .ref 8192] _ [] rfl trivial ?_
  refine AR.callV1 (8192) [.int (c)] [] lk_4_126 dc_X4_append_35 rfl rfl (s_1add _ c (by assumption) (by omega) (by omega)) (by first | rfl | (simp only [nI_add, pk_mul]; first | done | rfl)) rfl ?_
  have e2_0 : F_4append q = (F_1add q) := by rw [F_4append]
  have e2_1 : F_4append_tc c q tc = (F_1add_tc c q tc) := by rw [F_4append_tc]
  have e2_2 : F_4append_tl_ q tl_ = (F_1add_tl_ q tl_) := by rw [F_4append_tl_]
  exact AR.retI dc_X4_append_38 rfl e2_0.symm (by rw [e2_1, e2_2])
def F_4clearBuffer (tl_ : Int32) : Int32 := (F_1empty tl_)
def F_4clearBuffer_tl_ : Int32 := F_1empty_tl_
theorem g_X4_clearBuffer_0_2 : ab_oks M_X4_clearBuffer [(0, .aload_n 0, 1, 0, 0, 0, .null), (1, .getfield 19, 3, 4, 1, 172, .null)] = true := by decide +kernel
theorem lk_4_129 : ab_lkV "LeafCradles" 129 M_X1_empty 0 [672, 673, 674, 33, 675] = true := by decide +kernel
theorem dc_X4_clearBuffer_4 : decode (AM.bytes M_X4_clearBuffer) 4 = .ok (.invokevirtual 129, 3) := by decide +kernel
theorem dc_X4_clearBuffer_7 : decode (AM.bytes M_X4_clearBuffer) 7 = .ok (.ireturn, 1) := by decide +kernel
set_option maxRecDepth 100000 in
set_option maxHeartbeats 4000000 in
theorem s_4clearBuffer {E : AE} (d : Nat)  {o0 m0 u0 l0 : List AC} {T K : Nat → Nat → Int32} {os sc : Int32} {tc tp : Nat → Int32} {tl_ tn trd tv tdg tf tla : Int32} {pg ph pc : Nat → Int32} {pm : Int32} : CT E M_X4_clearBuffer (d + 1) [.ref 4096] (hp o0 (ar T K os sc) (te_ tc tp tl_ tn trd tv tdg tf tla) (pl pg ph pc pm) m0 u0 l0) (.inl (some (.int (F_4clearBuffer tl_)))) (hp o0 (ar T K os sc) (te_ tc tp F_4clearBuffer_tl_ tn trd tv tdg tf tla) (pl pg ph pc pm) m0 u0 l0) 0 0 := by
  refine CT.of (L := [some (.ref 4096)]) rfl rfl ?_
  refine AR.run g_X4_clearBuffer_0_2 4 [some (.ref 4096)] [.ref 8192] _ [] rfl trivial ?_
  refine AR.callV1 (8192) [] [] lk_4_129 dc_X4_clearBuffer_4 rfl rfl (s_1empty _  ) (by first | rfl | (simp only [nI_add, pk_mul]; first | done | rfl)) rfl ?_
  have e1_0 : F_4clearBuffer tl_ = (F_1empty tl_) := by rw [F_4clearBuffer]
  have e1_1 : F_4clearBuffer_tl_ = F_1empty_tl_ := by rw [F_4clearBuffer_tl_]
  exact AR.retI dc_X4_clearBuffer_7 rfl e1_0.symm (by rw [e1_1])
