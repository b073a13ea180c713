theorem g_X4_volume_0_2 : ab_oks M_X4_volume [(0, .aload_n 0, 1, 0, 0, 0, .null), (1, .iload_n 1, 1, 1, 0, 0, .null)] = true := by decide +kernel
theorem dc_X4_volume_2 : decode (AM.bytes M_X4_volume) 2 = .ok (.invokevirtual 77, 3) := by decide +kernel
set_option maxRecDepth 100000 in
set_option maxHeartbeats 4000000 in
theorem s_4volumeA {E : AE} (d : Nat) (x : Int32) (y : Int32) {nv : Nat} {nc : Nat} {nr : Nat} {ne : Nat}  {o0 m0 u0 l0 : List AC} {T K : Nat → Nat → Int32} {os sc : Int32} {tc tp : Nat → Int32} {tl_ tn trd tv tdg tf tla : Int32} {pg ph pc : Nat → Int32} {pm : Int32} (hT : TI T nv nc nr ne) (hbad : ¬ ∃ q9 : Nat, q9 < nv ∧ x = nI q9) (hex : E.ex = false) : CT E M_X4_volume (d + 4) [.ref 4096, .int (x), .int (y)] (hp o0 (ar T K os sc) (te_ tc tp tl_ tn trd tv tdg tf tla) (pl pg ph pc pm) m0 u0 l0) (.inr "java/lang/IndexOutOfBoundsException") (hp o0 (ar T K os sc) (te_ tc tp tl_ tn trd tv tdg tf tla) (pl pg ph pc pm) m0 u0 l0) 1 6 := by
  obtain ⟨⟨hnv, h12⟩, ⟨hnc, h4⟩, ⟨hnr, h3⟩, ⟨hne, h60⟩, hLT, hHT⟩ := id hT
  refine CT.of (L := [some (.ref 4096), some (.int (x)), some (.int (y))]) rfl rfl ?_
  refine AR.run g_X4_volume_0_2 2 [some (.ref 4096), some (.int (x)), some (.int (y))] [.int (x), .ref 4096] _ [] rfl trivial ?_
  exact AR.end' rfl rfl (AR.room (by omega) (by omega) (AR.callVx (4096) [.int (x)] [] lk_4_77 dc_X4_volume_2 rfl rfl (s_4requireVolumeB _ x (by assumption) (by omega) (by assumption)) (by first | rfl | (simp only [nI_add, pk_mul]; first | done | rfl)) rfl rfl))
theorem g_X4_volume_5_3 : ab_oks M_X4_volume [(5, .iload_n 2, 1, 2, 0, 0, .null), (6, .iconst 0, 1, 0, 0, 0, .int (nI (0))), (7, .bipush 11, 2, 0, 0, 0, .int (nI (11)))] = true := by decide +kernel
theorem dc_X4_volume_9 : decode (AM.bytes M_X4_volume) 9 = .ok (.invokestatic 30, 3) := by decide +kernel
set_option maxRecDepth 100000 in
set_option maxHeartbeats 4000000 in
theorem s_4volumeB {E : AE} (d : Nat) (v : Nat) (w : Int32) {nv : Nat} {nc : Nat} {nr : Nat} {ne : Nat}  {o0 m0 u0 l0 : List AC} {T K : Nat → Nat → Int32} {os sc : Int32} {tc tp : Nat → Int32} {tl_ tn trd tv tdg tf tla : Int32} {pg ph pc : Nat → Int32} {pm : Int32} (hT : TI T nv nc nr ne) (hv : v < nv) (hx : wi w (nI 0) (nI 11) = 0) (hex : E.ex = false) : CT E M_X4_volume (d + 4) [.ref 4096, .int (nI (v)), .int (w)] (hp o0 (ar T K os sc) (te_ tc tp tl_ tn trd tv tdg tf tla) (pl pg ph pc pm) m0 u0 l0) (.inr "java/lang/IllegalArgumentException") (hp o0 (ar T K os sc) (te_ tc tp tl_ tn trd tv tdg tf tla) (pl pg ph pc pm) m0 u0 l0) 1 6 := by
  obtain ⟨⟨hnv, h12⟩, ⟨hnc, h4⟩, ⟨hnr, h3⟩, ⟨hne, h60⟩, hLT, hHT⟩ := id hT
  refine CT.of (L := [some (.ref 4096), some (.int (nI (v))), some (.int (w))]) rfl rfl ?_
  refine AR.run g_X4_volume_0_2 2 [some (.ref 4096), some (.int (nI (v))), some (.int (w))] [.int (nI (v)), .ref 4096] _ [] rfl trivial ?_
  refine AR.callV0 (4096) [.int (nI (v))] [] lk_4_77 dc_X4_volume_2 rfl rfl (s_4requireVolumeO _ v (by assumption) (by omega)) (by first | rfl | (simp only [nI_add, pk_mul]; first | done | rfl)) rfl ?_
  refine AR.run g_X4_volume_5_3 9 [some (.ref 4096), some (.int (nI (v))), some (.int (w))] [.int (nI (11)), .int (nI (0)), .int (w)] _ [] rfl trivial ?_
  exact AR.end' rfl rfl (AR.room (by omega) (by omega) (AR.callSx [.int (w), .int (nI (0)), .int (nI (11))] [] lk_4_30 dc_X4_volume_9 (s_4requireRangeB _ w (nI (0)) (nI (11)) (by assumption) (by assumption)) (by first | rfl | (simp only [nI_add, pk_mul]; first | done | rfl)) rfl rfl))
theorem g_X4_volume_12_4 : ab_oks M_X4_volume [(12, .aload_n 0, 1, 0, 0, 0, .null), (13, .getfield 10, 3, 4, 0, 171, .null), (16, .iload_n 1, 1, 1, 0, 0, .null), (17, .iload_n 2, 1, 2, 0, 0, .null)] = true := by decide +kernel
theorem dc_X4_volume_18 : decode (AM.bytes M_X4_volume) 18 = .ok (.invokevirtual 110, 3) := by decide +kernel
theorem dc_X4_volume_21 : decode (AM.bytes M_X4_volume) 21 = .ok (.ireturn, 1) := by decide +kernel
set_option maxRecDepth 100000 in
set_option maxHeartbeats 4000000 in
theorem s_4volume {E : AE} (d : Nat) (v : Nat) (w : Nat) {nv : Nat} {nc : Nat} {nr : Nat} {ne : Nat}  {o0 m0 u0 l0 : List AC} {T K : Nat → Nat → Int32} {os sc : Int32} {tc tp : Nat → Int32} {tl_ tn trd tv tdg tf tla : Int32} {pg ph pc : Nat → Int32} {pm : Int32} (hT : TI T nv nc nr ne) (hv : v < nv) (hw : w < 12) : CT E M_X4_volume (d + 4) [.ref 4096, .int (nI (v)), .int (nI (w))] (hp o0 (ar T K os sc) (te_ tc tp tl_ tn trd tv tdg tf tla) (pl pg ph pc pm) m0 u0 l0) (.inl (some (.int (F_0volumeFact v w T)))) (hp o0 (ar T K os sc) (te_ tc tp tl_ tn trd tv tdg tf tla) (pl pg ph pc pm) m0 u0 l0) 0 0 := by
  obtain ⟨⟨hnv, h12⟩, ⟨hnc, h4⟩, ⟨hnr, h3⟩, ⟨hne, h60⟩, hLT, hHT⟩ := id hT
  refine CT.of (L := [some (.ref 4096), some (.int (nI (v))), some (.int (nI (w)))]) rfl rfl ?_
  refine AR.run g_X4_volume_0_2 2 [some (.ref 4096), some (.int (nI (v))), some (.int (nI (w)))] [.int (nI (v)), .ref 4096] _ [] rfl trivial ?_
  refine AR.callV0 (4096) [.int (nI (v))] [] lk_4_77 dc_X4_volume_2 rfl rfl (s_4requireVolumeO _ v (by assumption) (by omega)) (by first | rfl | (simp only [nI_add, pk_mul]; first | done | rfl)) rfl ?_
  refine AR.run g_X4_volume_5_3 9 [some (.ref 4096), some (.int (nI (v))), some (.int (nI (w)))] [.int (nI (11)), .int (nI (0)), .int (nI (w))] _ [] rfl trivial ?_
  refine AR.callS0 [.int (nI (w)), .int (nI (0)), .int (nI (11))] [] lk_4_30 dc_X4_volume_9 (s_4requireRangeO _ (nI (w)) (nI (0)) (nI (11)) (by first | assumption | exact wi_in (by omega) (by omega) (by decide))) (by first | rfl | (simp only [nI_add, pk_mul]; first | done | rfl)) rfl ?_
  refine AR.run g_X4_volume_12_4 18 [some (.ref 4096), some (.int (nI (v))), some (.int (nI (w)))] [.int (nI (w)), .int (nI (v)), .ref 4097] _ [] rfl trivial ?_
  refine AR.callV1 (4097) [.int (nI (v)), .int (nI (w))] [] lk_4_110 dc_X4_volume_18 rfl rfl (s_0volumeFact _ v w (by omega) (by first | assumption | exact (hLT v (by omega)).1) (by first | assumption | exact (hLT v (by omega)).2) (by omega)) (by first | rfl | (simp only [nI_add, pk_mul]; first | done | rfl)) rfl ?_
  exact AR.retI dc_X4_volume_21 rfl rfl rfl
theorem g_X4_cradle_0_2 : ab_oks M_X4_cradle [(0, .aload_n 0, 1, 0, 0, 0, .null), (1, .iload_n 1, 1, 1, 0, 0, .null)] = true := by decide +kernel
theorem dc_X4_cradle_2 : decode (AM.bytes M_X4_cradle) 2 = .ok (.invokevirtual 81, 3) := by decide +kernel
set_option maxRecDepth 100000 in
set_option maxHeartbeats 4000000 in
theorem s_4cradleA {E : AE} (d : Nat) (x : Int32) (y : Int32) {nv : Nat} {nc : Nat} {nr : Nat} {ne : Nat}  {o0 m0 u0 l0 : List AC} {T K : Nat → Nat → Int32} {os sc : Int32} {tc tp : Nat → Int32} {tl_ tn trd tv tdg tf tla : Int32} {pg ph pc : Nat → Int32} {pm : Int32} (hT : TI T nv nc nr ne) (hbad : ¬ ∃ q9 : Nat, q9 < nc ∧ x = nI q9) (hex : E.ex = false) : CT E M_X4_cradle (d + 4) [.ref 4096, .int (x), .int (y)] (hp o0 (ar T K os sc) (te_ tc tp tl_ tn trd tv tdg tf tla) (pl pg ph pc pm) m0 u0 l0) (.inr "java/lang/IndexOutOfBoundsException") (hp o0 (ar T K os sc) (te_ tc tp tl_ tn trd tv tdg tf tla) (pl pg ph pc pm) m0 u0 l0) 1 6 := by
  obtain ⟨⟨hnv, h12⟩, ⟨hnc, h4⟩, ⟨hnr, h3⟩, ⟨hne, h60⟩, hLT, hHT⟩ := id hT
  refine CT.of (L := [some (.ref 4096), some (.int (x)), some (.int (y))]) rfl rfl ?_
  refine AR.run g_X4_cradle_0_2 2 [some (.ref 4096), some (.int (x)), some (.int (y))] [.int (x), .ref 4096] _ [] rfl trivial ?_
  exact AR.end' rfl rfl (AR.room (by omega) (by omega) (AR.callVx (4096) [.int (x)] [] lk_4_81 dc_X4_cradle_2 rfl rfl (s_4requireCradleB _ x (by assumption) (by omega) (by assumption)) (by first | rfl | (simp only [nI_add, pk_mul]; first | done | rfl)) rfl rfl))
theorem g_X4_cradle_5_3 : ab_oks M_X4_cradle [(5, .iload_n 2, 1, 2, 0, 0, .null), (6, .iconst 0, 1, 0, 0, 0, .int (nI (0))), (7, .iconst 5, 1, 0, 0, 0, .int (nI (5)))] = true := by decide +kernel
theorem dc_X4_cradle_8 : decode (AM.bytes M_X4_cradle) 8 = .ok (.invokestatic 30, 3) := by decide +kernel
set_option maxRecDepth 100000 in
set_option maxHeartbeats 4000000 in
theorem s_4cradleB {E : AE} (d : Nat) (c : Nat) (w : Int32) {nv : Nat} {nc : Nat} {nr : Nat} {ne : Nat}  {o0 m0 u0 l0 : List AC} {T K : Nat → Nat → Int32} {os sc : Int32} {tc tp : Nat → Int32} {tl_ tn trd tv tdg tf tla : Int32} {pg ph pc : Nat → Int32} {pm : Int32} (hT : TI T nv nc nr ne) (hc : c < nc) (hx : wi w (nI 0) (nI 5) = 0) (hex : E.ex = false) : CT E M_X4_cradle (d + 4) [.ref 4096, .int (nI (c)), .int (w)] (hp o0 (ar T K os sc) (te_ tc tp tl_ tn trd tv tdg tf tla) (pl pg ph pc pm) m0 u0 l0) (.inr "java/lang/IllegalArgumentException") (hp o0 (ar T K os sc) (te_ tc tp tl_ tn trd tv tdg tf tla) (pl pg ph pc pm) m0 u0 l0) 1 6 := by
  obtain ⟨⟨hnv, h12⟩, ⟨hnc, h4⟩, ⟨hnr, h3⟩, ⟨hne, h60⟩, hLT, hHT⟩ := id hT
  refine CT.of (L := [some (.ref 4096), some (.int (nI (c))), some (.int (w))]) rfl rfl ?_
  refine AR.run g_X4_cradle_0_2 2 [some (.ref 4096), some (.int (nI (c))), some (.int (w))] [.int (nI (c)), .ref 4096] _ [] rfl trivial ?_
  refine AR.callV0 (4096) [.int (nI (c))] [] lk_4_81 dc_X4_cradle_2 rfl rfl (s_4requireCradleO _ c (by assumption) (by omega)) (by first | rfl | (simp only [nI_add, pk_mul]; first | done | rfl)) rfl ?_
  refine AR.run g_X4_cradle_5_3 8 [some (.ref 4096), some (.int (nI (c))), some (.int (w))] [.int (nI (5)), .int (nI (0)), .int (w)] _ [] rfl trivial ?_
  exact AR.end' rfl rfl (AR.room (by omega) (by omega) (AR.callSx [.int (w), .int (nI (0)), .int (nI (5))] [] lk_4_30 dc_X4_cradle_8 (s_4requireRangeB _ w (nI (0)) (nI (5)) (by assumption) (by assumption)) (by first | rfl | (simp only [nI_add, pk_mul]; first | done | rfl)) rfl rfl))
theorem g_X4_cradle_11_4 : ab_oks M_X4_cradle [(11, .aload_n 0, 1, 0, 0, 0, .null), (12, .getfield 10, 3, 4, 0, 171, .null), (15, .iload_n 1, 1, 1, 0, 0, .null), (16, .iload_n 2, 1, 2, 0, 0, .null)] = true := by decide +kernel
theorem lk_4_170 : ab_lkV "LeafCradles" 170 M_X0_cradleFact 2 [384, 385, 386, 30, 387] = true := by decide +kernel
theorem dc_X4_cradle_17 : decode (AM.bytes M_X4_cradle) 17 = .ok (.invokevirtual 170, 3) := by decide +kernel
theorem dc_X4_cradle_20 : decode (AM.bytes M_X4_cradle) 20 = .ok (.ireturn, 1) := by decide +kernel
set_option maxRecDepth 100000 in
set_option maxHeartbeats 4000000 in
theorem s_4cradle {E : AE} (d : Nat) (c : Nat) (w : Nat) {nv : Nat} {nc : Nat} {nr : Nat} {ne : Nat}  {o0 m0 u0 l0 : List AC} {T K : Nat → Nat → Int32} {os sc : Int32} {tc tp : Nat → Int32} {tl_ tn trd tv tdg tf tla : Int32} {pg ph pc : Nat → Int32} {pm : Int32} (hT : TI T nv nc nr ne) (hc : c < nc) (hw : w < 6) : CT E M_X4_cradle (d + 4) [.ref 4096, .int (nI (c)), .int (nI (w))] (hp o0 (ar T K os sc) (te_ tc tp tl_ tn trd tv tdg tf tla) (pl pg ph pc pm) m0 u0 l0) (.inl (some (.int (F_0cradleFact c w T)))) (hp o0 (ar T K os sc) (te_ tc tp tl_ tn trd tv tdg tf tla) (pl pg ph pc pm) m0 u0 l0) 0 0 := by
  obtain ⟨⟨hnv, h12⟩, ⟨hnc, h4⟩, ⟨hnr, h3⟩, ⟨hne, h60⟩, hLT, hHT⟩ := id hT
  refine CT.of (L := [some (.ref 4096), some (.int (nI (c))), some (.int (nI (w)))]) rfl rfl ?_
  refine AR.run g_X4_cradle_0_2 2 [some (.ref 4096), some (.int (nI (c))), some (.int (nI (w)))] [.int (nI (c)), .ref 4096] _ [] rfl trivial ?_
  refine AR.callV0 (4096) [.int (nI (c))] [] lk_4_81 dc_X4_cradle_2 rfl rfl (s_4requireCradleO _ c (by assumption) (by omega)) (by first | rfl | (simp only [nI_add, pk_mul]; first | done | rfl)) rfl ?_
  refine AR.run g_X4_cradle_5_3 8 [some (.ref 4096), some (.int (nI (c))), some (.int (nI (w)))] [.int (nI (5)), .int (nI (0)), .int (nI (w))] _ [] rfl trivial ?_
  refine AR.callS0 [.int (nI (w)), .int (nI (0)), .int (nI (5))] [] lk_4_30 dc_X4_cradle_8 (s_4requireRangeO _ (nI (w)) (nI (0)) (nI (5)) (by first | assumption | exact wi_in (by omega) (by omega) (by decide))) (by first | rfl | (simp only [nI_add, pk_mul]; first | done | rfl)) rfl ?_
  refine AR.run g_X4_cradle_11_4 17 [some (.ref 4096), some (.int (nI (c))), some (.int (nI (w)))] [.int (nI (w)), .int (nI (c)), .ref 4097] _ [] rfl trivial ?_
  refine AR.callV1 (4097) [.int (nI (c)), .int (nI (w))] [] lk_4_170 dc_X4_cradle_17 rfl rfl (s_0cradleFact _ c w (by assumption) (by omega) (by omega)) (by first | rfl | (simp only [nI_add, pk_mul]; first | done | rfl)) rfl ?_
  exact AR.retI dc_X4_cradle_20 rfl rfl rfl
theorem g_X4_carrier_0_2 : ab_oks M_X4_carrier [(0, .aload_n 0, 1, 0, 0, 0, .null), (1, .iload_n 1, 1, 1, 0, 0, .null)] = true := by decide +kernel
theorem dc_X4_carrier_2 : decode (AM.bytes M_X4_carrier) 2 = .ok (.invokevirtual 84, 3) := by decide +kernel
set_option maxRecDepth 100000 in
set_option maxHeartbeats 4000000 in
theorem s_4carrierA {E : AE} (d : Nat) (x : Int32) (y : Int32) {nv : Nat} {nc : Nat} {nr : Nat} {ne : Nat}  {o0 m0 u0 l0 : List AC} {T K : Nat → Nat → Int32} {os sc : Int32} {tc tp : Nat → Int32} {tl_ tn trd tv tdg tf tla : Int32} {pg ph pc : Nat → Int32} {pm : Int32} (hT : TI T nv nc nr ne) (hbad : ¬ ∃ q9 : Nat, q9 < nr ∧ x = nI q9) (hex : E.ex = false) : CT E M_X4_carrier (d + 3) [.ref 4096, .int (x), .int (y)] (hp o0 (ar T K os sc) (te_ tc tp tl_ tn trd tv tdg tf tla) (pl pg ph pc pm) m0 u0 l0) (.inr "java/lang/IndexOutOfBoundsException") (hp o0 (ar T K os sc) (te_ tc tp tl_ tn trd tv tdg tf tla) (pl pg ph pc pm) m0 u0 l0) 1 6 := by
  obtain ⟨⟨hnv, h12⟩, ⟨hnc, h4⟩, ⟨hnr, h3⟩, ⟨hne, h60⟩, hLT, hHT⟩ := id hT
  refine CT.of (L := [some (.ref 4096), some (.int (x)), some (.int (y))]) rfl rfl ?_
  refine AR.run g_X4_carrier_0_2 2 [some (.ref 4096), some (.int (x)), some (.int (y))] [.int (x), .ref 4096] _ [] rfl trivial ?_
  exact AR.end' rfl rfl (AR.room (by omega) (by omega) (AR.callVx (4096) [.int (x)] [] lk_4_84 dc_X4_carrier_2 rfl rfl (s_4requireCarrierB _ x (by assumption) (by omega) (by assumption)) (by first | rfl | (simp only [nI_add, pk_mul]; first | done | rfl)) rfl rfl))
theorem g_X4_carrier_5_3 : ab_oks M_X4_carrier [(5, .iload_n 2, 1, 2, 0, 0, .null), (6, .iconst 0, 1, 0, 0, 0, .int (nI (0))), (7, .iconst 3, 1, 0, 0, 0, .int (nI (3)))] = true := by decide +kernel
theorem dc_X4_carrier_8 : decode (AM.bytes M_X4_carrier) 8 = .ok (.invokestatic 30, 3) := by decide +kernel
set_option maxRecDepth 100000 in
set_option maxHeartbeats 4000000 in
theorem s_4carrierB {E : AE} (d : Nat) (r : Nat) (w : Int32) {nv : Nat} {nc : Nat} {nr : Nat} {ne : Nat}  {o0 m0 u0 l0 : List AC} {T K : Nat → Nat → Int32} {os sc : Int32} {tc tp : Nat → Int32} {tl_ tn trd tv tdg tf tla : Int32} {pg ph pc : Nat → Int32} {pm : Int32} (hT : TI T nv nc nr ne) (hr : r < nr) (hx : wi w (nI 0) (nI 3) = 0) (hex : E.ex = false) : CT E M_X4_carrier (d + 3) [.ref 4096, .int (nI (r)), .int (w)] (hp o0 (ar T K os sc) (te_ tc tp tl_ tn trd tv tdg tf tla) (pl pg ph pc pm) m0 u0 l0) (.inr "java/lang/IllegalArgumentException") (hp o0 (ar T K os sc) (te_ tc tp tl_ tn trd tv tdg tf tla) (pl pg ph pc pm) m0 u0 l0) 1 6 := by
  obtain ⟨⟨hnv, h12⟩, ⟨hnc, h4⟩, ⟨hnr, h3⟩, ⟨hne, h60⟩, hLT, hHT⟩ := id hT
  refine CT.of (L := [some (.ref 4096), some (.int (nI (r))), some (.int (w))]) rfl rfl ?_
  refine AR.run g_X4_carrier_0_2 2 [some (.ref 4096), some (.int (nI (r))), some (.int (w))] [.int (nI (r)), .ref 4096] _ [] rfl trivial ?_
  refine AR.callV0 (4096) [.int (nI (r))] [] lk_4_84 dc_X4_carrier_2 rfl rfl (s_4requireCarrierO _ r (by assumption) (by omega)) (by first | rfl | (simp only [nI_add, pk_mul]; first | done | rfl)) rfl ?_
  refine AR.run g_X4_carrier_5_3 8 [some (.ref 4096), some (.int (nI (r))), some (.int (w))] [.int (nI (3)), .int (nI (0)), .int (w)] _ [] rfl trivial ?_
  exact AR.end' rfl rfl (AR.room (by omega) (by omega) (AR.callSx [.int (w), .int (nI (0)), .int (nI (3))] [] lk_4_30 dc_X4_carrier_8 (s_4requireRangeB _ w (nI (0)) (nI (3)) (by assumption) (by assumption)) (by first | rfl | (simp only [nI_add, pk_mul]; first | done | rfl)) rfl rfl))
theorem g_X4_carrier_11_4 : ab_oks M_X4_carrier [(11, .aload_n 0, 1, 0, 0, 0, .null), (12, .getfield 10, 3, 4, 0, 171, .null), (15, .iload_n 1, 1, 1, 0, 0, .null), (16, .iload_n 2, 1, 2, 0, 0, .null)] = true := by decide +kernel
theorem lk_4_173 : ab_lkV "LeafCradles" 173 M_X0_carrierFact 2 [407, 408, 409, 30, 410] = true := by decide +kernel
theorem dc_X4_carrier_17 : decode (AM.bytes M_X4_carrier) 17 = .ok (.invokevirtual 173, 3) := by decide +kernel
theorem dc_X4_carrier_20 : decode (AM.bytes M_X4_carrier) 20 = .ok (.ireturn, 1) := by decide +kernel
set_option maxRecDepth 100000 in
set_option maxHeartbeats 4000000 in
theorem s_4carrier {E : AE} (d : Nat) (r : Nat) (w : Nat) {nv : Nat} {nc : Nat} {nr : Nat} {ne : Nat}  {o0 m0 u0 l0 : List AC} {T K : Nat → Nat → Int32} {os sc : Int32} {tc tp : Nat → Int32} {tl_ tn trd tv tdg tf tla : Int32} {pg ph pc : Nat → Int32} {pm : Int32} (hT : TI T nv nc nr ne) (hr : r < nr) (hw : w < 4) : CT E M_X4_carrier (d + 3) [.ref 4096, .int (nI (r)), .int (nI (w))] (hp o0 (ar T K os sc) (te_ tc tp tl_ tn trd tv tdg tf tla) (pl pg ph pc pm) m0 u0 l0) (.inl (some (.int ((T 3) (r * 4 + w))))) (hp o0 (ar T K os sc) (te_ tc tp tl_ tn trd tv tdg tf tla) (pl pg ph pc pm) m0 u0 l0) 0 0 := by
  obtain ⟨⟨hnv, h12⟩, ⟨hnc, h4⟩, ⟨hnr, h3⟩, ⟨hne, h60⟩, hLT, hHT⟩ := id hT
  refine CT.of (L := [some (.ref 4096), some (.int (nI (r))), some (.int (nI (w)))]) rfl rfl ?_
  refine AR.run g_X4_carrier_0_2 2 [some (.ref 4096), some (.int (nI (r))), some (.int (nI (w)))] [.int (nI (r)), .ref 4096] _ [] rfl trivial ?_
  refine AR.callV0 (4096) [.int (nI (r))] [] lk_4_84 dc_X4_carrier_2 rfl rfl (s_4requireCarrierO _ r (by assumption) (by omega)) (by first | rfl | (simp only [nI_add, pk_mul]; first | done | rfl)) rfl ?_
  refine AR.run g_X4_carrier_5_3 8 [some (.ref 4096), some (.int (nI (r))), some (.int (nI (w)))] [.int (nI (3)), .int (nI (0)), .int (nI (w))] _ [] rfl trivial ?_
  refine AR.callS0 [.int (nI (w)), .int (nI (0)), .int (nI (3))] [] lk_4_30 dc_X4_carrier_8 (s_4requireRangeO _ (nI (w)) (nI (0)) (nI (3)) (by first | assumption | exact wi_in (by omega) (by omega) (by decide))) (by first | rfl | (simp only [nI_add, pk_mul]; first | done | rfl)) rfl ?_
  refine AR.run g_X4_carrier_11_4 17 [some (.ref 4096), some (.int (nI (r))), some (.int (nI (w)))] [.int (nI (w)), .int (nI (r)), .ref 4097] _ [] rfl trivial ?_
  refine AR.callV1 (4097) [.int (nI (r)), .int (nI (w))] [] lk_4_173 dc_X4_carrier_17 rfl rfl (s_0carrierFact _ r w (by omega) (by omega)) (by first | rfl | (simp only [nI_add, pk_mul]; first | done | rfl)) rfl ?_
  exact AR.retI dc_X4_carrier_20 rfl rfl rfl
theorem g_X4_log_0_4 : ab_oks M_X4_log [(0, .iload_n 1, 1, 1, 0, 0, .null), (1, .aload_n 0, 1, 0, 0, 0, .null), (2, .getfield 10, 3, 4, 0, 171, .null), (5, .iconst 5, 1, 0, 0, 0, .int (nI (5)))] = true := by decide +kernel
theorem dc_X4_log_6 : decode (AM.bytes M_X4_log) 6 = .ok (.invokevirtual 34, 3) := by decide +kernel
theorem dc_X4_log_9 : decode (AM.bytes M_X4_log) 9 = .ok (.invokestatic 64, 3) := by decide +kernel
set_option maxRecDepth 100000 in
set_option maxHeartbeats 4000000 in
theorem s_4logA {E : AE} (d : Nat) (x : Int32) (y : Int32) {nv : Nat} {nc : Nat} {nr : Nat} {ne : Nat}  {o0 m0 u0 l0 : List AC} {T K : Nat → Nat → Int32} {os sc : Int32} {tc tp : Nat → Int32} {tl_ tn trd tv tdg tf tla : Int32} {pg ph pc : Nat → Int32} {pm : Int32} (hT : TI T nv nc nr ne) (hbad : ¬ ∃ q9 : Nat, q9 < ne ∧ x = nI q9) (hex : E.ex = false) : CT E M_X4_log (d + 2) [.ref 4096, .int (x), .int (y)] (hp o0 (ar T K os sc) (te_ tc tp tl_ tn trd tv tdg tf tla) (pl pg ph pc pm) m0 u0 l0) (.inr "java/lang/IndexOutOfBoundsException") (hp o0 (ar T K os sc) (te_ tc tp tl_ tn trd tv tdg tf tla) (pl pg ph pc pm) m0 u0 l0) 1 6 := by
  obtain ⟨⟨hnv, h12⟩, ⟨hnc, h4⟩, ⟨hnr, h3⟩, ⟨hne, h60⟩, hLT, hHT⟩ := id hT
  refine CT.of (L := [some (.ref 4096), some (.int (x)), some (.int (y))]) rfl rfl ?_
  refine AR.run g_X4_log_0_4 6 [some (.ref 4096), some (.int (x)), some (.int (y))] [.int (nI (5)), .ref 4097, .int (x)] _ [] rfl trivial ?_
  refine AR.callV1 (4097) [.int (nI (5))] [.int (x)] lk_4_34 dc_X4_log_6 rfl rfl (s_0number _ 5 (by omega)) (by first | rfl | (simp only [nI_add, pk_mul]; first | done | rfl)) rfl ?_
  refine AR.top hT.2.2.2.1.1 ?_
  exact AR.end' rfl rfl (AR.room (by omega) (by omega) (AR.callSx [.int (x), .int (nI (ne))] [] lk_4_64 dc_X4_log_9 (s_4requireIndexB _ x ne (by assumption) (by omega) (by assumption)) (by first | rfl | (simp only [nI_add, pk_mul]; first | done | rfl)) rfl rfl))
theorem g_X4_log_12_3 : ab_oks M_X4_log [(12, .iload_n 2, 1, 2, 0, 0, .null), (13, .iconst 0, 1, 0, 0, 0, .int (nI (0))), (14, .iconst 4, 1, 0, 0, 0, .int (nI (4)))] = true := by decide +kernel
theorem dc_X4_log_15 : decode (AM.bytes M_X4_log) 15 = .ok (.invokestatic 30, 3) := by decide +kernel
set_option maxRecDepth 100000 in
set_option maxHeartbeats 4000000 in
theorem s_4logB {E : AE} (d : Nat) (e : Nat) (w : Int32) {nv : Nat} {nc : Nat} {nr : Nat} {ne : Nat}  {o0 m0 u0 l0 : List AC} {T K : Nat → Nat → Int32} {os sc : Int32} {tc tp : Nat → Int32} {tl_ tn trd tv tdg tf tla : Int32} {pg ph pc : Nat → Int32} {pm : Int32} (hT : TI T nv nc nr ne) (he : e < ne) (hx : wi w (nI 0) (nI 4) = 0) (hex : E.ex = false) : CT E M_X4_log (d + 2) [.ref 4096, .int (nI (e)), .int (w)] (hp o0 (ar T K os sc) (te_ tc tp tl_ tn trd tv tdg tf tla) (pl pg ph pc pm) m0 u0 l0) (.inr "java/lang/IllegalArgumentException") (hp o0 (ar T K os sc) (te_ tc tp tl_ tn trd tv tdg tf tla) (pl pg ph pc pm) m0 u0 l0) 1 6 := by
  obtain ⟨⟨hnv, h12⟩, ⟨hnc, h4⟩, ⟨hnr, h3⟩, ⟨hne, h60⟩, hLT, hHT⟩ := id hT
  refine CT.of (L := [some (.ref 4096), some (.int (nI (e))), some (.int (w))]) rfl rfl ?_
  refine AR.run g_X4_log_0_4 6 [some (.ref 4096), some (.int (nI (e))), some (.int (w))] [.int (nI (5)), .ref 4097, .int (nI (e))] _ [] rfl trivial ?_
  refine AR.callV1 (4097) [.int (nI (5))] [.int (nI (e))] lk_4_34 dc_X4_log_6 rfl rfl (s_0number _ 5 (by omega)) (by first | rfl | (simp only [nI_add, pk_mul]; first | done | rfl)) rfl ?_
  refine AR.top hT.2.2.2.1.1 ?_
  refine AR.callS0 [.int (nI (e)), .int (nI (ne))] [] lk_4_64 dc_X4_log_9 (s_4requireIndexO _ e ne (by omega) (by omega)) (by first | rfl | (simp only [nI_add, pk_mul]; first | done | rfl)) rfl ?_
  refine AR.run g_X4_log_12_3 15 [some (.ref 4096), some (.int (nI (e))), some (.int (w))] [.int (nI (4)), .int (nI (0)), .int (w)] _ [] rfl trivial ?_
  exact AR.end' rfl rfl (AR.room (by omega) (by omega) (AR.callSx [.int (w), .int (nI (0)), .int (nI (4))] [] lk_4_30 dc_X4_log_15 (s_4requireRangeB _ w (nI (0)) (nI (4)) (by assumption) (by assumption)) (by first | rfl | (simp only [nI_add, pk_mul]; first | done | rfl)) rfl rfl))
theorem g_X4_log_18_4 : ab_oks M_X4_log [(18, .aload_n 0, 1, 0, 0, 0, .null), (19, .getfield 10, 3, 4, 0, 171, .null), (22, .iload_n 1, 1, 1, 0, 0, .null), (23, .iload_n 2, 1, 2, 0, 0, .null)] = true := by decide +kernel
theorem lk_4_176 : ab_lkV "LeafCradles" 176 M_X0_entryFact 2 [415, 416, 417, 30, 418] = true := by decide +kernel
theorem dc_X4_log_24 : decode (AM.bytes M_X4_log) 24 = .ok (.invokevirtual 176, 3) := by decide +kernel
theorem dc_X4_log_27 : decode (AM.bytes M_X4_log) 27 = .ok (.ireturn, 1) := by decide +kernel
set_option maxRecDepth 100000 in
set_option maxHeartbeats 4000000 in
theorem s_4log {E : AE} (d : Nat) (e : Nat) (w : Nat) {nv : Nat} {nc : Nat} {nr : Nat} {ne : Nat}  {o0 m0 u0 l0 : List AC} {T K : Nat → Nat → Int32} {os sc : Int32} {tc tp : Nat → Int32} {tl_ tn trd tv tdg tf tla : Int32} {pg ph pc : Nat → Int32} {pm : Int32} (hT : TI T nv nc nr ne) (he : e < ne) (hw : w < 5) : CT E M_X4_log (d + 2) [.ref 4096, .int (nI (e)), .int (nI (w))] (hp o0 (ar T K os sc) (te_ tc tp tl_ tn trd tv tdg tf tla) (pl pg ph pc pm) m0 u0 l0) (.inl (some (.int ((T 4) (e * 5 + w))))) (hp o0 (ar T K os sc) (te_ tc tp tl_ tn trd tv tdg tf tla) (pl pg ph pc pm) m0 u0 l0) 0 0 := by
  obtain ⟨⟨hnv, h12⟩, ⟨hnc, h4⟩, ⟨hnr, h3⟩, ⟨hne, h60⟩, hLT, hHT⟩ := id hT
  refine CT.of (L := [some (.ref 4096), some (.int (nI (e))), some (.int (nI (w)))]) rfl rfl ?_
  refine AR.run g_X4_log_0_4 6 [some (.ref 4096), some (.int (nI (e))), some (.int (nI (w)))] [.int (nI (5)), .ref 4097, .int (nI (e))] _ [] rfl trivial ?_
  refine AR.callV1 (4097) [.int (nI (5))] [.int (nI (e))] lk_4_34 dc_X4_log_6 rfl rfl (s_0number _ 5 (by omega)) (by first | rfl | (simp only [nI_add, pk_mul]; first | done | rfl)) rfl ?_
  refine AR.top hT.2.2.2.1.1 ?_
  refine AR.callS0 [.int (nI (e)), .int (nI (ne))] [] lk_4_64 dc_X4_log_9 (s_4requireIndexO _ e ne (by omega) (by omega)) (by first | rfl | (simp only [nI_add, pk_mul]; first | done | rfl)) rfl ?_
  refine AR.run g_X4_log_12_3 15 [some (.ref 4096), some (.int (nI (e))), some (.int (nI (w)))] [.int (nI (4)), .int (nI (0)), .int (nI (w))] _ [] rfl trivial ?_
  refine AR.callS0 [.int (nI (w)), .int (nI (0)), .int (nI (4))] [] lk_4_30 dc_X4_log_15 (s_4requireRangeO _ (nI (w)) (nI (0)) (nI (4)) (by first | assumption | exact wi_in (by omega) (by omega) (by decide))) (by first | rfl | (simp only [nI_add, pk_mul]; first | done | rfl)) rfl ?_
  refine AR.run g_X4_log_18_4 24 [some (.ref 4096), some (.int (nI (e))), some (.int (nI (w)))] [.int (nI (w)), .int (nI (e)), .ref 4097] _ [] rfl trivial ?_
  refine AR.callV1 (4097) [.int (nI (e)), .int (nI (w))] [] lk_4_176 dc_X4_log_24 rfl rfl (s_0entryFact _ e w (by omega) (by omega)) (by first | rfl | (simp only [nI_add, pk_mul]; first | done | rfl)) rfl ?_
  exact AR.retI dc_X4_log_27 rfl rfl rfl
theorem g_X4_whereAt_0_2 : ab_oks M_X4_whereAt [(0, .aload_n 0, 1, 0, 0, 0, .null), (1, .iload_n 1, 1, 1, 0, 0, .null)] = true := by decide +kernel
theorem dc_X4_whereAt_2 : decode (AM.bytes M_X4_whereAt) 2 = .ok (.invokevirtual 77, 3) := by decide +kernel
set_option maxRecDepth 100000 in
set_option maxHeartbeats 4000000 in
theorem s_4whereAtA {E : AE} (d : Nat) (x : Int32) (y : Int32) {nv : Nat} {nc : Nat} {nr : Nat} {ne : Nat}  {o0 m0 u0 l0 : List AC} {T K : Nat → Nat → Int32} {os sc : Int32} {tc tp : Nat → Int32} {tl_ tn trd tv tdg tf tla : Int32} {pg ph pc : Nat → Int32} {pm : Int32} (hT : TI T nv nc nr ne) (hbad : ¬ ∃ q9 : Nat, q9 < nv ∧ x = nI q9) (hex : E.ex = false) : CT E M_X4_whereAt (d + 3) [.ref 4096, .int (x), .int (y)] (hp o0 (ar T K os sc) (te_ tc tp tl_ tn trd tv tdg tf tla) (pl pg ph pc pm) m0 u0 l0) (.inr "java/lang/IndexOutOfBoundsException") (hp o0 (ar T K os sc) (te_ tc tp tl_ tn trd tv tdg tf tla) (pl pg ph pc pm) m0 u0 l0) 1 6 := by
  obtain ⟨⟨hnv, h12⟩, ⟨hnc, h4⟩, ⟨hnr, h3⟩, ⟨hne, h60⟩, hLT, hHT⟩ := id hT
  refine CT.of (L := [some (.ref 4096), some (.int (x)), some (.int (y))]) rfl rfl ?_
  refine AR.run g_X4_whereAt_0_2 2 [some (.ref 4096), some (.int (x)), some (.int (y))] [.int (x), .ref 4096] _ [] rfl trivial ?_
  exact AR.end' rfl rfl (AR.room (by omega) (by omega) (AR.callVx (4096) [.int (x)] [] lk_4_77 dc_X4_whereAt_2 rfl rfl (s_4requireVolumeB _ x (by assumption) (by omega) (by assumption)) (by first | rfl | (simp only [nI_add, pk_mul]; first | done | rfl)) rfl rfl))
theorem g_X4_whereAt_5_5 : ab_oks M_X4_whereAt [(5, .iload_n 2, 1, 2, 0, 0, .null), (6, .iconst 0, 1, 0, 0, 0, .int (nI (0))), (7, .aload_n 0, 1, 0, 0, 0, .null), (8, .getfield 10, 3, 4, 0, 171, .null), (11, .iconst 3, 1, 0, 0, 0, .int (nI (3)))] = true := by decide +kernel
theorem dc_X4_whereAt_12 : decode (AM.bytes M_X4_whereAt) 12 = .ok (.invokevirtual 34, 3) := by decide +kernel
theorem dc_X4_whereAt_15 : decode (AM.bytes M_X4_whereAt) 15 = .ok (.invokestatic 30, 3) := by decide +kernel
set_option maxRecDepth 100000 in
set_option maxHeartbeats 4000000 in
theorem s_4whereAtB {E : AE} (d : Nat) (v : Nat) (m : Int32) {nv : Nat} {nc : Nat} {nr : Nat} {ne : Nat}  {o0 m0 u0 l0 : List AC} {T K : Nat → Nat → Int32} {os sc : Int32} {tc tp : Nat → Int32} {tl_ tn trd tv tdg tf tla : Int32} {pg ph pc : Nat → Int32} {pm : Int32} (hT : TI T nv nc nr ne) (hv : v < nv) (hx : wi m (nI 0) (T 5 3) = 0) (hex : E.ex = false) : CT E M_X4_whereAt (d + 3) [.ref 4096, .int (nI (v)), .int (m)] (hp o0 (ar T K os sc) (te_ tc tp tl_ tn trd tv tdg tf tla) (pl pg ph pc pm) m0 u0 l0) (.inr "java/lang/IllegalArgumentException") (hp o0 (ar T K os sc) (te_ tc tp tl_ tn trd tv tdg tf tla) (pl pg ph pc pm) m0 u0 l0) 1 6 := by
  obtain ⟨⟨hnv, h12⟩, ⟨hnc, h4⟩, ⟨hnr, h3⟩, ⟨hne, h60⟩, hLT, hHT⟩ := id hT
  refine CT.of (L := [some (.ref 4096), some (.int (nI (v))), some (.int (m))]) rfl rfl ?_
  refine AR.run g_X4_whereAt_0_2 2 [some (.ref 4096), some (.int (nI (v))), some (.int (m))] [.int (nI (v)), .ref 4096] _ [] rfl trivial ?_
  refine AR.callV0 (4096) [.int (nI (v))] [] lk_4_77 dc_X4_whereAt_2 rfl rfl (s_4requireVolumeO _ v (by assumption) (by omega)) (by first | rfl | (simp only [nI_add, pk_mul]; first | done | rfl)) rfl ?_
  refine AR.run g_X4_whereAt_5_5 12 [some (.ref 4096), some (.int (nI (v))), some (.int (m))] [.int (nI (3)), .ref 4097, .int (nI (0)), .int (m)] _ [] rfl trivial ?_
  refine AR.callV1 (4097) [.int (nI (3))] [.int (nI (0)), .int (m)] lk_4_34 dc_X4_whereAt_12 rfl rfl (s_0number _ 3 (by omega)) (by first | rfl | (simp only [nI_add, pk_mul]; first | done | rfl)) rfl ?_
  exact AR.end' rfl rfl (AR.room (by omega) (by omega) (AR.callSx [.int (m), .int (nI (0)), .int ((T 5) 3)] [] lk_4_30 dc_X4_whereAt_15 (s_4requireRangeB _ m (nI (0)) ((T 5) 3) (by assumption) (by assumption)) (by first | rfl | (simp only [nI_add, pk_mul]; first | done | rfl)) rfl rfl))
theorem g_X4_whereAt_18_4 : ab_oks M_X4_whereAt [(18, .aload_n 0, 1, 0, 0, 0, .null), (19, .getfield 10, 3, 4, 0, 171, .null), (22, .iload_n 1, 1, 1, 0, 0, .null), (23, .iload_n 2, 1, 2, 0, 0, .null)] = true := by decide +kernel
theorem lk_4_179 : ab_lkV "LeafCradles" 179 M_X0_placeAt 2 [361, 362, 363, 30, 364] = true := by decide +kernel
theorem dc_X4_whereAt_24 : decode (AM.bytes M_X4_whereAt) 24 = .ok (.invokevirtual 179, 3) := by decide +kernel
theorem dc_X4_whereAt_27 : decode (AM.bytes M_X4_whereAt) 27 = .ok (.ireturn, 1) := by decide +kernel
set_option maxRecDepth 100000 in
set_option maxHeartbeats 4000000 in
theorem s_4whereAt {E : AE} (d : Nat) (v : Nat) (m : Int32) {nv : Nat} {nc : Nat} {nr : Nat} {ne : Nat}  {o0 m0 u0 l0 : List AC} {T K : Nat → Nat → Int32} {os sc : Int32} {tc tp : Nat → Int32} {tl_ tn trd tv tdg tf tla : Int32} {pg ph pc : Nat → Int32} {pm : Int32} (hT : TI T nv nc nr ne) (hv : v < nv) (ho0 : ¬ wi m (nI 0) (T 5 3) = 0) : CT E M_X4_whereAt (d + 3) [.ref 4096, .int (nI (v)), .int (m)] (hp o0 (ar T K os sc) (te_ tc tp tl_ tn trd tv tdg tf tla) (pl pg ph pc pm) m0 u0 l0) (.inl (some (.int (W_0placeAt_8 (nI (v)) m T ne)))) (hp o0 (ar T K os sc) (te_ tc tp tl_ tn trd tv tdg tf tla) (pl pg ph pc pm) m0 u0 l0) 0 0 := by
  obtain ⟨⟨hnv, h12⟩, ⟨hnc, h4⟩, ⟨hnr, h3⟩, ⟨hne, h60⟩, hLT, hHT⟩ := id hT
  refine CT.of (L := [some (.ref 4096), some (.int (nI (v))), some (.int (m))]) rfl rfl ?_
  refine AR.run g_X4_whereAt_0_2 2 [some (.ref 4096), some (.int (nI (v))), some (.int (m))] [.int (nI (v)), .ref 4096] _ [] rfl trivial ?_
  refine AR.callV0 (4096) [.int (nI (v))] [] lk_4_77 dc_X4_whereAt_2 rfl rfl (s_4requireVolumeO _ v (by assumption) (by omega)) (by first | rfl | (simp only [nI_add, pk_mul]; first | done | rfl)) rfl ?_
  refine AR.run g_X4_whereAt_5_5 12 [some (.ref 4096), some (.int (nI (v))), some (.int (m))] [.int (nI (3)), .ref 4097, .int (nI (0)), .int (m)] _ [] rfl trivial ?_
  refine AR.callV1 (4097) [.int (nI (3))] [.int (nI (0)), .int (m)] lk_4_34 dc_X4_whereAt_12 rfl rfl (s_0number _ 3 (by omega)) (by first | rfl | (simp only [nI_add, pk_mul]; first | done | rfl)) rfl ?_
  refine AR.callS0 [.int (m), .int (nI (0)), .int ((T 5) 3)] [] lk_4_30 dc_X4_whereAt_15 (s_4requireRangeO _ m (nI (0)) ((T 5) 3) (by assumption)) (by first | rfl | (simp only [nI_add, pk_mul]; first | done | rfl)) rfl ?_
  refine AR.run g_X4_whereAt_18_4 24 [some (.ref 4096), some (.int (nI (v))), some (.int (m))] [.int (m), .int (nI (v)), .ref 4097] _ [] rfl trivial ?_
  refine AR.callV1 (4097) [.int (nI (v)), .int (m)] [] lk_4_179 dc_X4_whereAt_24 rfl rfl (s_0placeAt _ (nI (v)) m (by assumption)) (by first | rfl | (simp only [nI_add, pk_mul]; first | done | rfl)) rfl ?_
  exact AR.retI dc_X4_whereAt_27 rfl rfl rfl
theorem g_X4_count_0_3 : ab_oks M_X4_count [(0, .iload_n 1, 1, 1, 0, 0, .null), (1, .iconst 0, 1, 0, 0, 0, .int (nI (0))), (2, .bipush 13, 2, 0, 0, 0, .int (nI (13)))] = true := by decide +kernel
theorem dc_X4_count_4 : decode (AM.bytes M_X4_count) 4 = .ok (.invokestatic 30, 3) := by decide +kernel
set_option maxRecDepth 100000 in
set_option maxHeartbeats 4000000 in
theorem s_4countA {E : AE} (d : Nat) (w : Int32)  {o0 m0 u0 l0 : List AC} {T K : Nat → Nat → Int32} {os sc : Int32} {tc tp : Nat → Int32} {tl_ tn trd tv tdg tf tla : Int32} {pg ph pc : Nat → Int32} {pm : Int32} (hx : wi w (nI 0) (nI 13) = 0) (hex : E.ex = false) : CT E M_X4_count (d + 6) [.ref 4096, .int (w)] (hp o0 (ar T K os sc) (te_ tc tp tl_ tn trd tv tdg tf tla) (pl pg ph pc pm) m0 u0 l0) (.inr "java/lang/IllegalArgumentException") (hp o0 (ar T K os sc) (te_ tc tp tl_ tn trd tv tdg tf tla) (pl pg ph pc pm) m0 u0 l0) 1 6 := by
  refine CT.of (L := [some (.ref 4096), some (.int (w))]) rfl rfl ?_
  refine AR.run g_X4_count_0_3 4 [some (.ref 4096), some (.int (w))] [.int (nI (13)), .int (nI (0)), .int (w)] _ [] rfl trivial ?_
  exact AR.end' rfl rfl (AR.room (by omega) (by omega) (AR.callSx [.int (w), .int (nI (0)), .int (nI (13))] [] lk_4_30 dc_X4_count_4 (s_4requireRangeB _ w (nI (0)) (nI (13)) (by assumption) (by assumption)) (by first | rfl | (simp only [nI_add, pk_mul]; first | done | rfl)) rfl rfl))
theorem g_X4_count_7_3 : ab_oks M_X4_count [(7, .aload_n 0, 1, 0, 0, 0, .null), (8, .getfield 10, 3, 4, 0, 171, .null), (11, .iload_n 1, 1, 1, 0, 0, .null)] = true := by decide +kernel
theorem lk_4_182 : ab_lkV "LeafCradles" 182 M_X0_total 1 [256, 257, 258, 30, 259] = true := by decide +kernel
theorem dc_X4_count_12 : decode (AM.bytes M_X4_count) 12 = .ok (.invokevirtual 182, 3) := by decide +kernel
theorem dc_X4_count_15 : decode (AM.bytes M_X4_count) 15 = .ok (.ireturn, 1) := by decide +kernel
set_option maxRecDepth 100000 in
set_option maxHeartbeats 4000000 in
theorem s_4count {E : AE} (d : Nat) (w : Nat) {nv : Nat} {nc : Nat} {nr : Nat} {ne : Nat}  {o0 m0 u0 l0 : List AC} {T K : Nat → Nat → Int32} {os sc : Int32} {tc tp : Nat → Int32} {tl_ tn trd tv tdg tf tla : Int32} {pg ph pc : Nat → Int32} {pm : Int32} (hT : TI T nv nc nr ne) (hw : w < 14) : CT E M_X4_count (d + 6) [.ref 4096, .int (nI (w))] (hp o0 (ar T K os sc) (te_ tc tp tl_ tn trd tv tdg tf tla) (pl pg ph pc pm) m0 u0 l0) (.inl (some (.int (F_0total w nv nc T sc)))) (hp o0 (ar T K os sc) (te_ tc tp tl_ tn trd tv tdg tf tla) (pl pg ph pc pm) m0 u0 l0) 0 0 := by
  obtain ⟨⟨hnv, h12⟩, ⟨hnc, h4⟩, ⟨hnr, h3⟩, ⟨hne, h60⟩, hLT, hHT⟩ := id hT
  refine CT.of (L := [some (.ref 4096), some (.int (nI (w)))]) rfl rfl ?_
  refine AR.run g_X4_count_0_3 4 [some (.ref 4096), some (.int (nI (w)))] [.int (nI (13)), .int (nI (0)), .int (nI (w))] _ [] rfl trivial ?_
  refine AR.callS0 [.int (nI (w)), .int (nI (0)), .int (nI (13))] [] lk_4_30 dc_X4_count_4 (s_4requireRangeO _ (nI (w)) (nI (0)) (nI (13)) (by first | assumption | exact wi_in (by omega) (by omega) (by decide))) (by first | rfl | (simp only [nI_add, pk_mul]; first | done | rfl)) rfl ?_
  refine AR.run g_X4_count_7_3 12 [some (.ref 4096), some (.int (nI (w)))] [.int (nI (w)), .ref 4097] _ [] rfl trivial ?_
  refine AR.callV1 (4097) [.int (nI (w))] [] lk_4_182 dc_X4_count_12 rfl rfl (s_0total _ w (by assumption) (by omega)) (by first | rfl | (simp only [nI_add, pk_mul]; first | done | rfl)) rfl ?_
  exact AR.retI dc_X4_count_15 rfl rfl rfl
theorem g_X4_setting_0_2 : ab_oks M_X4_setting [(0, .iload_n 1, 1, 1, 0, 0, .null), (1, .iconst 4, 1, 0, 0, 0, .int (nI (4)))] = true := by decide +kernel
theorem dc_X4_setting_2 : decode (AM.bytes M_X4_setting) 2 = .ok (.invokestatic 64, 3) := by decide +kernel
set_option maxRecDepth 100000 in
set_option maxHeartbeats 4000000 in
theorem s_4settingA {E : AE} (d : Nat) (x : Int32)  {o0 m0 u0 l0 : List AC} {T K : Nat → Nat → Int32} {os sc : Int32} {tc tp : Nat → Int32} {tl_ tn trd tv tdg tf tla : Int32} {pg ph pc : Nat → Int32} {pm : Int32} (hbad : ¬ ∃ q9 : Nat, q9 < 4 ∧ x = nI q9) (hex : E.ex = false) : CT E M_X4_setting (d + 2) [.ref 4096, .int (x)] (hp o0 (ar T K os sc) (te_ tc tp tl_ tn trd tv tdg tf tla) (pl pg ph pc pm) m0 u0 l0) (.inr "java/lang/IndexOutOfBoundsException") (hp o0 (ar T K os sc) (te_ tc tp tl_ tn trd tv tdg tf tla) (pl pg ph pc pm) m0 u0 l0) 1 6 := by
  refine CT.of (L := [some (.ref 4096), some (.int (x))]) rfl rfl ?_
  refine AR.run g_X4_setting_0_2 2 [some (.ref 4096), some (.int (x))] [.int (nI (4)), .int (x)] _ [] rfl trivial ?_
  exact AR.end' rfl rfl (AR.room (by omega) (by omega) (AR.callSx [.int (x), .int (nI (4))] [] lk_4_64 dc_X4_setting_2 (s_4requireIndexB _ x 4 (by assumption) (by omega) (by assumption)) (by first | rfl | (simp only [nI_add, pk_mul]; first | done | rfl)) rfl rfl))
theorem g_X4_setting_5_5 : ab_oks M_X4_setting [(5, .aload_n 0, 1, 0, 0, 0, .null), (6, .getfield 10, 3, 4, 0, 171, .null), (9, .bipush 7, 2, 0, 0, 0, .int (nI (7))), (11, .iload_n 1, 1, 1, 0, 0, .null), (12, .iadd, 1, 0, 0, 0, .null)] = true := by decide +kernel
theorem dc_X4_setting_13 : decode (AM.bytes M_X4_setting) 13 = .ok (.invokevirtual 34, 3) := by decide +kernel
theorem dc_X4_setting_16 : decode (AM.bytes M_X4_setting) 16 = .ok (.ireturn, 1) := by decide +kernel
set_option maxRecDepth 100000 in
set_option maxHeartbeats 4000000 in
theorem s_4setting {E : AE} (d : Nat) (k : Nat)  {o0 m0 u0 l0 : List AC} {T K : Nat → Nat → Int32} {os sc : Int32} {tc tp : Nat → Int32} {tl_ tn trd tv tdg tf tla : Int32} {pg ph pc : Nat → Int32} {pm : Int32} (hk : k < 4) : CT E M_X4_setting (d + 2) [.ref 4096, .int (nI (k))] (hp o0 (ar T K os sc) (te_ tc tp tl_ tn trd tv tdg tf tla) (pl pg ph pc pm) m0 u0 l0) (.inl (some (.int ((T 5) (7 + k))))) (hp o0 (ar T K os sc) (te_ tc tp tl_ tn trd tv tdg tf tla) (pl pg ph pc pm) m0 u0 l0) 0 0 := by
  refine CT.of (L := [some (.ref 4096), some (.int (nI (k)))]) rfl rfl ?_
  refine AR.run g_X4_setting_0_2 2 [some (.ref 4096), some (.int (nI (k)))] [.int (nI (4)), .int (nI (k))] _ [] rfl trivial ?_
  refine AR.callS0 [.int (nI (k)), .int (nI (4))] [] lk_4_64 dc_X4_setting_2 (s_4requireIndexO _ k 4 (by omega) (by omega)) (by first | rfl | (simp only [nI_add, pk_mul]; first | done | rfl)) rfl ?_
  refine AR.run g_X4_setting_5_5 13 [some (.ref 4096), some (.int (nI (k)))] [.int ((nI (7)) + (nI (k))), .ref 4097] _ [] rfl trivial ?_
  refine AR.callV1 (4097) [.int (nI ((7 + k)))] [] lk_4_34 dc_X4_setting_13 rfl rfl (s_0number _ (7 + k) (by omega)) (by first | rfl | (simp only [nI_add, pk_mul]; first | done | rfl)) rfl ?_
  exact AR.retI dc_X4_setting_16 rfl rfl rfl
theorem g_X4_ifPassed_0_2 : ab_oks M_X4_ifPassed [(0, .iload_n 2, 1, 2, 0, 0, .null), (1, .iconst (-1), 1, 0, 0, 0, .int (-1))] = true := by decide +kernel
theorem dc_X4_ifPassed_2 : decode (AM.bytes M_X4_ifPassed) 2 = .ok (.if_icmp .eq 8, 3) := by decide +kernel
theorem g_X4_ifPassed_5_2 : ab_oks M_X4_ifPassed [(5, .aload_n 0, 1, 0, 0, 0, .null), (6, .iload_n 2, 1, 2, 0, 0, .null)] = true := by decide +kernel
theorem dc_X4_ifPassed_7 : decode (AM.bytes M_X4_ifPassed) 7 = .ok (.invokevirtual 81, 3) := by decide +kernel
set_option maxRecDepth 100000 in
set_option maxHeartbeats 4000000 in
theorem s_4ifPassedA {E : AE} (d : Nat) (m : Int32) (x : Int32) {nv : Nat} {nc : Nat} {nr : Nat} {ne : Nat}  {o0 m0 u0 l0 : List AC} {T K : Nat → Nat → Int32} {os sc : Int32} {tc tp : Nat → Int32} {tl_ tn trd tv tdg tf tla : Int32} {pg ph pc : Nat → Int32} {pm : Int32} (hT : TI T nv nc nr ne) (hbad : ¬ ∃ q9 : Nat, q9 < nc ∧ x = nI q9) (hx1 : ¬ x = -1) (hex : E.ex = false) : CT E M_X4_ifPassed (d + 6) [.ref 4096, .int (m), .int (x)] (hp o0 (ar T K os sc) (te_ tc tp tl_ tn trd tv tdg tf tla) (pl pg ph pc pm) m0 u0 l0) (.inr "java/lang/IndexOutOfBoundsException") (hp o0 (ar T K os sc) (te_ tc tp tl_ tn trd tv tdg tf tla) (pl pg ph pc pm) m0 u0 l0) 1 6 := by
  obtain ⟨⟨hnv, h12⟩, ⟨hnc, h4⟩, ⟨hnr, h3⟩, ⟨hne, h60⟩, hLT, hHT⟩ := id hT
  refine CT.of (L := [some (.ref 4096), some (.int (m)), some (.int (x))]) rfl rfl ?_
  refine AR.run g_X4_ifPassed_0_2 2 [some (.ref 4096), some (.int (m)), some (.int (x))] [.int (-1), .int (x)] _ [] rfl trivial ?_
  refine AR.eq2 (tgt := 10) dc_X4_ifPassed_2 (by decide) (fun c2_1 => absurd c2_1 hx1) (fun c2_1 => ?_)
  refine AR.run g_X4_ifPassed_5_2 7 [some (.ref 4096), some (.int (m)), some (.int (x))] [.int (x), .ref 4096] _ [] rfl trivial ?_
  exact AR.end' rfl rfl (AR.room (by omega) (by omega) (AR.callVx (4096) [.int (x)] [] lk_4_81 dc_X4_ifPassed_7 rfl rfl (s_4requireCradleB _ x (by assumption) (by omega) (by assumption)) (by first | rfl | (simp only [nI_add, pk_mul]; first | done | rfl)) rfl rfl))
theorem g_X4_ifPassed_10_3 : ab_oks M_X4_ifPassed [(10, .iload_n 1, 1, 1, 0, 0, .null), (11, .iconst 1, 1, 0, 0, 0, .int (nI (1))), (12, .sipush 500, 3, 0, 0, 0, .int (nI (500)))] = true := by decide +kernel
theorem dc_X4_ifPassed_15 : decode (AM.bytes M_X4_ifPassed) 15 = .ok (.invokestatic 30, 3) := by decide +kernel
set_option maxRecDepth 100000 in
set_option maxHeartbeats 4000000 in
theorem s_4ifPassedB {E : AE} (d : Nat) (m : Int32) (c : Nat) {nv : Nat} {nc : Nat} {nr : Nat} {ne : Nat}  {o0 m0 u0 l0 : List AC} {T K : Nat → Nat → Int32} {os sc : Int32} {tc tp : Nat → Int32} {tl_ tn trd tv tdg tf tla : Int32} {pg ph pc : Nat → Int32} {pm : Int32} (hT : TI T nv nc nr ne) (hc : c < nc) (hx : wi m (nI 1) (nI 500) = 0) (hex : E.ex = false) : CT E M_X4_ifPassed (d + 6) [.ref 4096, .int (m), .int (nI (c))] (hp o0 (ar T K os sc) (te_ tc tp tl_ tn trd tv tdg tf tla) (pl pg ph pc pm) m0 u0 l0) (.inr "java/lang/IllegalArgumentException") (hp o0 (ar T K os sc) (te_ tc tp tl_ tn trd tv tdg tf tla) (pl pg ph pc pm) m0 u0 l0) 1 6 := by
  obtain ⟨⟨hnv, h12⟩, ⟨hnc, h4⟩, ⟨hnr, h3⟩, ⟨hne, h60⟩, hLT, hHT⟩ := id hT
  refine CT.of (L := [some (.ref 4096), some (.int (m)), some (.int (nI (c)))]) rfl rfl ?_
  refine AR.run g_X4_ifPassed_0_2 2 [some (.ref 4096), some (.int (m)), some (.int (nI (c)))] [.int (-1), .int (nI (c))] _ [] rfl trivial ?_
  refine AR.eq2 (tgt := 10) dc_X4_ifPassed_2 (by decide) (fun c2_1 => absurd c2_1 (nI_m1 (by omega))) (fun c2_1 => ?_)
  refine AR.run g_X4_ifPassed_5_2 7 [some (.ref 4096), some (.int (m)), some (.int (nI (c)))] [.int (nI (c)), .ref 4096] _ [] rfl trivial ?_
  refine AR.callV0 (4096) [.int (nI (c))] [] lk_4_81 dc_X4_ifPassed_7 rfl rfl (s_4requireCradleO _ c (by assumption) (by omega)) (by first | rfl | (simp only [nI_add, pk_mul]; first | done | rfl)) rfl ?_
  refine AR.run g_X4_ifPassed_10_3 15 [some (.ref 4096), some (.int (m)), some (.int (nI (c)))] [.int (nI (500)), .int (nI (1)), .int (m)] _ [] rfl trivial ?_
  exact AR.end' rfl rfl (AR.room (by omega) (by omega) (AR.callSx [.int (m), .int (nI (1)), .int (nI (500))] [] lk_4_30 dc_X4_ifPassed_15 (s_4requireRangeB _ m (nI (1)) (nI (500)) (by assumption) (by assumption)) (by first | rfl | (simp only [nI_add, pk_mul]; first | done | rfl)) rfl rfl))
set_option maxRecDepth 100000 in
set_option maxHeartbeats 4000000 in
theorem s_4ifPassedC {E : AE} (d : Nat) (m : Int32) {nv : Nat} {nc : Nat} {nr : Nat} {ne : Nat}  {o0 m0 u0 l0 : List AC} {T K : Nat → Nat → Int32} {os sc : Int32} {tc tp : Nat → Int32} {tl_ tn trd tv tdg tf tla : Int32} {pg ph pc : Nat → Int32} {pm : Int32} (hT : TI T nv nc nr ne) (hx : wi m (nI 1) (nI 500) = 0) (hex : E.ex = false) : CT E M_X4_ifPassed (d + 6) [.ref 4096, .int (m), .int (-1)] (hp o0 (ar T K os sc) (te_ tc tp tl_ tn trd tv tdg tf tla) (pl pg ph pc pm) m0 u0 l0) (.inr "java/lang/IllegalArgumentException") (hp o0 (ar T K os sc) (te_ tc tp tl_ tn trd tv tdg tf tla) (pl pg ph pc pm) m0 u0 l0) 1 6 := by
  obtain ⟨⟨hnv, h12⟩, ⟨hnc, h4⟩, ⟨hnr, h3⟩, ⟨hne, h60⟩, hLT, hHT⟩ := id hT
  refine CT.of (L := [some (.ref 4096), some (.int (m)), some (.int (-1))]) rfl rfl ?_
  refine AR.run g_X4_ifPassed_0_2 2 [some (.ref 4096), some (.int (m)), some (.int (-1))] [.int (-1), .int (-1)] _ [] rfl trivial ?_
  refine AR.eq2 (tgt := 10) dc_X4_ifPassed_2 (by decide) (fun c2_1 => ?_) (fun c2_1 => absurd c2_1 (fun q => q rfl))
  refine AR.run g_X4_ifPassed_10_3 15 [some (.ref 4096), some (.int (m)), some (.int (-1))] [.int (nI (500)), .int (nI (1)), .int (m)] _ [] rfl trivial ?_
  exact AR.end' rfl rfl (AR.room (by omega) (by omega) (AR.callSx [.int (m), .int (nI (1)), .int (nI (500))] [] lk_4_30 dc_X4_ifPassed_15 (s_4requireRangeB _ m (nI (1)) (nI (500)) (by assumption) (by assumption)) (by first | rfl | (simp only [nI_add, pk_mul]; first | done | rfl)) rfl rfl))
def F_4ifPassedD (m : Int32) (c : Nat) (T : Nat → Nat → Int32) : Int32 := (F_0scansOnCradleIn c m T)
def F_4ifPassedD_T (m : Int32) (c : Nat) (T : Nat → Nat → Int32) : Nat → Nat → Int32 := (F_0scansOnCradleIn_T c m T)
theorem g_X4_ifPassed_18_2 : ab_oks M_X4_ifPassed [(18, .iload_n 2, 1, 2, 0, 0, .null), (19, .iconst (-1), 1, 0, 0, 0, .int (-1))] = true := by decide +kernel
theorem dc_X4_ifPassed_20 : decode (AM.bytes M_X4_ifPassed) 20 = .ok (.if_icmp .ne 14, 3) := by decide +kernel
theorem g_X4_ifPassed_34_4 : ab_oks M_X4_ifPassed [(34, .aload_n 0, 1, 0, 0, 0, .null), (35, .getfield 10, 3, 4, 0, 171, .null), (38, .iload_n 2, 1, 2, 0, 0, .null), (39, .iload_n 1, 1, 1, 0, 0, .null)] = true := by decide +kernel
theorem lk_4_188 : ab_lkV "LeafCradles" 188 M_X0_scansOnCradleIn 2 [472, 441, 442, 30, 443] = true := by decide +kernel
theorem dc_X4_ifPassed_40 : decode (AM.bytes M_X4_ifPassed) 40 = .ok (.invokevirtual 188, 3) := by decide +kernel
theorem dc_X4_ifPassed_43 : decode (AM.bytes M_X4_ifPassed) 43 = .ok (.ireturn, 1) := by decide +kernel
set_option maxRecDepth 100000 in
set_option maxHeartbeats 4000000 in
theorem s_4ifPassedD {E : AE} (d : Nat) (m : Int32) (c : Nat) {nv : Nat} {nc : Nat} {nr : Nat} {ne : Nat}  {o0 m0 u0 l0 : List AC} {T K : Nat → Nat → Int32} {os sc : Int32} {tc tp : Nat → Int32} {tl_ tn trd tv tdg tf tla : Int32} {pg ph pc : Nat → Int32} {pm : Int32} (hT : TI T nv nc nr ne) (hc : c < nc) (ho0 : ¬ wi m (nI 1) (nI 500) = 0) : CT E M_X4_ifPassed (d + 6) [.ref 4096, .int (m), .int (nI (c))] (hp o0 (ar T K os sc) (te_ tc tp tl_ tn trd tv tdg tf tla) (pl pg ph pc pm) m0 u0 l0) (.inl (some (.int (F_4ifPassedD m c T)))) (hp o0 (ar (F_4ifPassedD_T m c T) K os sc) (te_ tc tp tl_ tn trd tv tdg tf tla) (pl pg ph pc pm) m0 u0 l0) 0 0 := by
  obtain ⟨⟨hnv, h12⟩, ⟨hnc, h4⟩, ⟨hnr, h3⟩, ⟨hne, h60⟩, hLT, hHT⟩ := id hT
  refine CT.of (L := [some (.ref 4096), some (.int (m)), some (.int (nI (c)))]) rfl rfl ?_
  refine AR.run g_X4_ifPassed_0_2 2 [some (.ref 4096), some (.int (m)), some (.int (nI (c)))] [.int (-1), .int (nI (c))] _ [] rfl trivial ?_
  refine AR.eq2 (tgt := 10) dc_X4_ifPassed_2 (by decide) (fun c2_1 => absurd c2_1 (nI_m1 (by omega))) (fun c2_1 => ?_)
  refine AR.run g_X4_ifPassed_5_2 7 [some (.ref 4096), some (.int (m)), some (.int (nI (c)))] [.int (nI (c)), .ref 4096] _ [] rfl trivial ?_
  refine AR.callV0 (4096) [.int (nI (c))] [] lk_4_81 dc_X4_ifPassed_7 rfl rfl (s_4requireCradleO _ c (by assumption) (by omega)) (by first | rfl | (simp only [nI_add, pk_mul]; first | done | rfl)) rfl ?_
  refine AR.run g_X4_ifPassed_10_3 15 [some (.ref 4096), some (.int (m)), some (.int (nI (c)))] [.int (nI (500)), .int (nI (1)), .int (m)] _ [] rfl trivial ?_
  refine AR.callS0 [.int (m), .int (nI (1)), .int (nI (500))] [] lk_4_30 dc_X4_ifPassed_15 (s_4requireRangeO _ m (nI (1)) (nI (500)) (by assumption)) (by first | rfl | (simp only [nI_add, pk_mul]; first | done | rfl)) rfl ?_
  refine AR.run g_X4_ifPassed_18_2 20 [some (.ref 4096), some (.int (m)), some (.int (nI (c)))] [.int (-1), .int (nI (c))] _ [] rfl trivial ?_
  refine AR.ne2 (tgt := 34) dc_X4_ifPassed_20 (by decide) (fun c20_2 => ?_) (fun c20_2 => absurd c20_2 (nI_m1 (by omega)))
  refine AR.run g_X4_ifPassed_34_4 40 [some (.ref 4096), some (.int (m)), some (.int (nI (c)))] [.int (m), .int (nI (c)), .ref 4097] _ [] rfl trivial ?_
  refine AR.callV1 (4097) [.int (nI (c)), .int (m)] [] lk_4_188 dc_X4_ifPassed_40 rfl rfl (s_0scansOnCradleIn _ c m (by assumption) (by omega)) (by first | rfl | (simp only [nI_add, pk_mul]; first | done | rfl)) rfl ?_
  have e3_0 : F_4ifPassedD m c T = (F_0scansOnCradleIn c m T) := by rw [F_4ifPassedD]
  have e3_1 : F_4ifPassedD_T m c T = (F_0scansOnCradleIn_T c m T) := by rw [F_4ifPassedD_T]
  exact AR.retI dc_X4_ifPassed_43 rfl e3_0.symm (by rw [e3_1])
def F_4ifPassedE (m : Int32) (nc : Nat) (T : Nat → Nat → Int32) : Int32 := (F_0scansIn m nc T)
def F_4ifPassedE_T (m : Int32) (nc : Nat) (T : Nat → Nat → Int32) : Nat → Nat → Int32 := (F_0scansIn_T m nc T)
theorem g_X4_ifPassed_23_3 : ab_oks M_X4_ifPassed [(23, .aload_n 0, 1, 0, 0, 0, .null), (24, .getfield 10, 3, 4, 0, 171, .null), (27, .iload_n 1, 1, 1, 0, 0, .null)] = true := by decide +kernel
theorem lk_4_185 : ab_lkV "LeafCradles" 185 M_X0_scansIn 1 [436, 437, 438, 30, 439] = true := by decide +kernel
theorem dc_X4_ifPassed_28 : decode (AM.bytes M_X4_ifPassed) 28 = .ok (.invokevirtual 185, 3) := by decide +kernel
theorem g_X4_ifPassed_31_1 : ab_oks M_X4_ifPassed [(31, .goto 12, 3, 43, 0, 0, .null)] = true := by decide +kernel
set_option maxRecDepth 100000 in
set_option maxHeartbeats 4000000 in
theorem s_4ifPassedE {E : AE} (d : Nat) (m : Int32) {nv : Nat} {nc : Nat} {nr : Nat} {ne : Nat}  {o0 m0 u0 l0 : List AC} {T K : Nat → Nat → Int32} {os sc : Int32} {tc tp : Nat → Int32} {tl_ tn trd tv tdg tf tla : Int32} {pg ph pc : Nat → Int32} {pm : Int32} (hT : TI T nv nc nr ne) (ho0 : ¬ wi m (nI 1) (nI 500) = 0) : CT E M_X4_ifPassed (d + 6) [.ref 4096, .int (m), .int (-1)] (hp o0 (ar T K os sc) (te_ tc tp tl_ tn trd tv tdg tf tla) (pl pg ph pc pm) m0 u0 l0) (.inl (some (.int (F_4ifPassedE m nc T)))) (hp o0 (ar (F_4ifPassedE_T m nc T) K os sc) (te_ tc tp tl_ tn trd tv tdg tf tla) (pl pg ph pc pm) m0 u0 l0) 0 0 := by
  obtain ⟨⟨hnv, h12⟩, ⟨hnc, h4⟩, ⟨hnr, h3⟩, ⟨hne, h60⟩, hLT, hHT⟩ := id hT
  refine CT.of (L := [some (.ref 4096), some (.int (m)), some (.int (-1))]) rfl rfl ?_
  refine AR.run g_X4_ifPassed_0_2 2 [some (.ref 4096), some (.int (m)), some (.int (-1))] [.int (-1), .int (-1)] _ [] rfl trivial ?_
  refine AR.eq2 (tgt := 10) dc_X4_ifPassed_2 (by decide) (fun c2_1 => ?_) (fun c2_1 => absurd c2_1 (fun q => q rfl))
  refine AR.run g_X4_ifPassed_10_3 15 [some (.ref 4096), some (.int (m)), some (.int (-1))] [.int (nI (500)), .int (nI (1)), .int (m)] _ [] rfl trivial ?_
  refine AR.callS0 [.int (m), .int (nI (1)), .int (nI (500))] [] lk_4_30 dc_X4_ifPassed_15 (s_4requireRangeO _ m (nI (1)) (nI (500)) (by assumption)) (by first | rfl | (simp only [nI_add, pk_mul]; first | done | rfl)) rfl ?_
  refine AR.run g_X4_ifPassed_18_2 20 [some (.ref 4096), some (.int (m)), some (.int (-1))] [.int (-1), .int (-1)] _ [] rfl trivial ?_
  refine AR.ne2 (tgt := 34) dc_X4_ifPassed_20 (by decide) (fun c20_2 => absurd c20_2 (fun q => q rfl)) (fun c20_2 => ?_)
  refine AR.run g_X4_ifPassed_23_3 28 [some (.ref 4096), some (.int (m)), some (.int (-1))] [.int (m), .ref 4097] _ [] rfl trivial ?_
  refine AR.callV1 (4097) [.int (m)] [] lk_4_185 dc_X4_ifPassed_28 rfl rfl (s_0scansIn _ m (by assumption)) (by first | rfl | (simp only [nI_add, pk_mul]; first | done | rfl)) rfl ?_
  refine AR.run g_X4_ifPassed_31_1 43 [some (.ref 4096), some (.int (m)), some (.int (-1))] [.int (F_0scansIn m nc T)] _ [] rfl trivial ?_
  have e3_0 : F_4ifPassedE m nc T = (F_0scansIn m nc T) := by rw [F_4ifPassedE]
  have e3_1 : F_4ifPassedE_T m nc T = (F_0scansIn_T m nc T) := by rw [F_4ifPassedE_T]
  exact AR.retI dc_X4_ifPassed_43 rfl e3_0.symm (by rw [e3_1])
def F_4doneIn (nc : Nat) (T : Nat → Nat → Int32) : Int32 := (F_0minutesUntilDone nc T)
def F_4doneIn_T (nc : Nat) (T : Nat → Nat → Int32) : Nat → Nat → Int32 := (F_0minutesUntilDone_T nc T)
theorem g_X4_doneIn_0_2 : ab_oks M_X4_doneIn [(0, .aload_n 0, 1, 0, 0, 0, .null), (1, .getfield 10, 3, 4, 0, 171, .null)] = true := by decide +kernel
theorem lk_4_191 : ab_lkV "LeafCradles" 191 M_X0_minutesUntilDone 0 [480, 481, 482, 30, 483] = true := by decide +kernel
theorem dc_X4_doneIn_4 : decode (AM.bytes M_X4_doneIn) 4 = .ok (.invokevirtual 191, 3) := by decide +kernel
theorem dc_X4_doneIn_7 : decode (AM.bytes M_X4_doneIn) 7 = .ok (.ireturn, 1) := by decide +kernel
set_option maxRecDepth 100000 in
set_option maxHeartbeats 4000000 in
theorem s_4doneIn {E : AE} (d : Nat) {nv : Nat} {nc : Nat} {nr : Nat} {ne : Nat}  {o0 m0 u0 l0 : List AC} {T K : Nat → Nat → Int32} {os sc : Int32} {tc tp : Nat → Int32} {tl_ tn trd tv tdg tf tla : Int32} {pg ph pc : Nat → Int32} {pm : Int32} (hT : TI T nv nc nr ne) : CT E M_X4_doneIn (d + 4) [.ref 4096] (hp o0 (ar T K os sc) (te_ tc tp tl_ tn trd tv tdg tf tla) (pl pg ph pc pm) m0 u0 l0) (.inl (some (.int (F_4doneIn nc T)))) (hp o0 (ar (F_4doneIn_T nc T) K os sc) (te_ tc tp tl_ tn trd tv tdg tf tla) (pl pg ph pc pm) m0 u0 l0) 0 0 := by
  obtain ⟨⟨hnv, h12⟩, ⟨hnc, h4⟩, ⟨hnr, h3⟩, ⟨hne, h60⟩, hLT, hHT⟩ := id hT
  refine CT.of (L := [some (.ref 4096)]) rfl rfl ?_
  refine AR.run g_X4_doneIn_0_2 4 [some (.ref 4096)] [.ref 4097] _ [] rfl trivial ?_
  refine AR.callV1 (4097) [] [] lk_4_191 dc_X4_doneIn_4 rfl rfl (s_0minutesUntilDone _  (by assumption)) (by first | rfl | (simp only [nI_add, pk_mul]; first | done | rfl)) rfl ?_
  have e1_0 : F_4doneIn nc T = (F_0minutesUntilDone nc T) := by rw [F_4doneIn]
  have e1_1 : F_4doneIn_T nc T = (F_0minutesUntilDone_T nc T) := by rw [F_4doneIn_T]
  exact AR.retI dc_X4_doneIn_7 rfl e1_0.symm (by rw [e1_1])
theorem g_X4_quickest_0_2 : ab_oks M_X4_quickest [(0, .aload_n 0, 1, 0, 0, 0, .null), (1, .iload_n 1, 1, 1, 0, 0, .null)] = true := by decide +kernel
theorem dc_X4_quickest_2 : decode (AM.bytes M_X4_quickest) 2 = .ok (.invokevirtual 77, 3) := by decide +kernel
set_option maxRecDepth 100000 in
set_option maxHeartbeats 4000000 in
theorem s_4quickestA {E : AE} (d : Nat) (x : Int32) {nv : Nat} {nc : Nat} {nr : Nat} {ne : Nat}  {o0 m0 u0 l0 : List AC} {T K : Nat → Nat → Int32} {os sc : Int32} {tc tp : Nat → Int32} {tl_ tn trd tv tdg tf tla : Int32} {pg ph pc : Nat → Int32} {pm : Int32} (hT : TI T nv nc nr ne) (hbad : ¬ ∃ q9 : Nat, q9 < nv ∧ x = nI q9) (hex : E.ex = false) : CT E M_X4_quickest (d + 4) [.ref 4096, .int (x)] (hp o0 (ar T K os sc) (te_ tc tp tl_ tn trd tv tdg tf tla) (pl pg ph pc pm) m0 u0 l0) (.inr "java/lang/IndexOutOfBoundsException") (hp o0 (ar T K os sc) (te_ tc tp tl_ tn trd tv tdg tf tla) (pl pg ph pc pm) m0 u0 l0) 1 6 := by
  obtain ⟨⟨hnv, h12⟩, ⟨hnc, h4⟩, ⟨hnr, h3⟩, ⟨hne, h60⟩, hLT, hHT⟩ := id hT
  refine CT.of (L := [some (.ref 4096), some (.int (x))]) rfl rfl ?_
  refine AR.run g_X4_quickest_0_2 2 [some (.ref 4096), some (.int (x))] [.int (x), .ref 4096] _ [] rfl trivial ?_
  exact AR.end' rfl rfl (AR.room (by omega) (by omega) (AR.callVx (4096) [.int (x)] [] lk_4_77 dc_X4_quickest_2 rfl rfl (s_4requireVolumeB _ x (by assumption) (by omega) (by assumption)) (by first | rfl | (simp only [nI_add, pk_mul]; first | done | rfl)) rfl rfl))
theorem g_X4_quickest_5_3 : ab_oks M_X4_quickest [(5, .aload_n 0, 1, 0, 0, 0, .null), (6, .getfield 10, 3, 4, 0, 171, .null), (9, .iload_n 1, 1, 1, 0, 0, .null)] = true := by decide +kernel
theorem lk_4_194 : ab_lkV "LeafCradles" 194 M_X0_quickestCarrier 1 [494, 495, 496, 30, 497] = true := by decide +kernel
theorem dc_X4_quickest_10 : decode (AM.bytes M_X4_quickest) 10 = .ok (.invokevirtual 194, 3) := by decide +kernel
theorem dc_X4_quickest_13 : decode (AM.bytes M_X4_quickest) 13 = .ok (.ireturn, 1) := by decide +kernel
set_option maxRecDepth 100000 in
set_option maxHeartbeats 4000000 in
theorem s_4quickest {E : AE} (d : Nat) (v : Nat) {nv : Nat} {nc : Nat} {nr : Nat} {ne : Nat}  {o0 m0 u0 l0 : List AC} {T K : Nat → Nat → Int32} {os sc : Int32} {tc tp : Nat → Int32} {tl_ tn trd tv tdg tf tla : Int32} {pg ph pc : Nat → Int32} {pm : Int32} (hT : TI T nv nc nr ne) (hv : v < nv) : CT E M_X4_quickest (d + 4) [.ref 4096, .int (nI (v))] (hp o0 (ar T K os sc) (te_ tc tp tl_ tn trd tv tdg tf tla) (pl pg ph pc pm) m0 u0 l0) (.inl (some (.int ((L_0quickestCarrier_7 v T nr).1)))) (hp o0 (ar T K os sc) (te_ tc tp tl_ tn trd tv tdg tf tla) (pl pg ph pc pm) m0 u0 l0) 0 0 := by
  obtain ⟨⟨hnv, h12⟩, ⟨hnc, h4⟩, ⟨hnr, h3⟩, ⟨hne, h60⟩, hLT, hHT⟩ := id hT
  refine CT.of (L := [some (.ref 4096), some (.int (nI (v)))]) rfl rfl ?_
  refine AR.run g_X4_quickest_0_2 2 [some (.ref 4096), some (.int (nI (v)))] [.int (nI (v)), .ref 4096] _ [] rfl trivial ?_
  refine AR.callV0 (4096) [.int (nI (v))] [] lk_4_77 dc_X4_quickest_2 rfl rfl (s_4requireVolumeO _ v (by assumption) (by omega)) (by first | rfl | (simp only [nI_add, pk_mul]; first | done | rfl)) rfl ?_
  refine AR.run g_X4_quickest_5_3 10 [some (.ref 4096), some (.int (nI (v)))] [.int (nI (v)), .ref 4097] _ [] rfl trivial ?_
  refine AR.callV1 (4097) [.int (nI (v))] [] lk_4_194 dc_X4_quickest_10 rfl rfl (s_0quickestCarrier _ v (by assumption) (by omega)) (by first | rfl | (simp only [nI_add, pk_mul]; first | done | rfl)) rfl ?_
  exact AR.retI dc_X4_quickest_13 rfl rfl rfl
theorem g_X4_bestLoad_0_3 : ab_oks M_X4_bestLoad [(0, .iload_n 1, 1, 1, 0, 0, .null), (1, .iconst 1, 1, 0, 0, 0, .int (nI (1))), (2, .bipush 100, 2, 0, 0, 0, .int (nI (100)))] = true := by decide +kernel
theorem dc_X4_bestLoad_4 : decode (AM.bytes M_X4_bestLoad) 4 = .ok (.invokestatic 30, 3) := by decide +kernel
set_option maxRecDepth 100000 in
set_option maxHeartbeats 4000000 in
theorem s_4bestLoadA {E : AE} (d : Nat) (m : Int32) (w : Int32) {nv : Nat} {nc : Nat} {nr : Nat} {ne : Nat}  {o0 m0 u0 l0 : List AC} {T K : Nat → Nat → Int32} {os sc : Int32} {tc tp : Nat → Int32} {tl_ tn trd tv tdg tf tla : Int32} {pg ph pc : Nat → Int32} {pm : Int32} (hT : TI T nv nc nr ne) (hx : wi m (nI 1) (nI 100) = 0) (hex : E.ex = false) : CT E M_X4_bestLoad (d + 8) [.ref 4096, .int (m), .int (w)] (hp o0 (ar T K os sc) (te_ tc tp tl_ tn trd tv tdg tf tla) (pl pg ph pc pm) m0 u0 l0) (.inr "java/lang/IllegalArgumentException") (hp o0 (ar T K os sc) (te_ tc tp tl_ tn trd tv tdg tf tla) (pl pg ph pc pm) m0 u0 l0) 1 6 := by
  obtain ⟨⟨hnv, h12⟩, ⟨hnc, h4⟩, ⟨hnr, h3⟩, ⟨hne, h60⟩, hLT, hHT⟩ := id hT
  refine CT.of (L := [some (.ref 4096), some (.int (m)), some (.int (w))]) rfl rfl ?_
  refine AR.run g_X4_bestLoad_0_3 4 [some (.ref 4096), some (.int (m)), some (.int (w))] [.int (nI (100)), .int (nI (1)), .int (m)] _ [] rfl trivial ?_
  exact AR.end' rfl rfl (AR.room (by omega) (by omega) (AR.callSx [.int (m), .int (nI (1)), .int (nI (100))] [] lk_4_30 dc_X4_bestLoad_4 (s_4requireRangeB _ m (nI (1)) (nI (100)) (by assumption) (by assumption)) (by first | rfl | (simp only [nI_add, pk_mul]; first | done | rfl)) rfl rfl))
theorem g_X4_bestLoad_7_3 : ab_oks M_X4_bestLoad [(7, .iload_n 2, 1, 2, 0, 0, .null), (8, .iconst 0, 1, 0, 0, 0, .int (nI (0))), (9, .iconst 4, 1, 0, 0, 0, .int (nI (4)))] = true := by decide +kernel
theorem dc_X4_bestLoad_10 : decode (AM.bytes M_X4_bestLoad) 10 = .ok (.invokestatic 30, 3) := by decide +kernel
set_option maxRecDepth 100000 in
set_option maxHeartbeats 4000000 in
theorem s_4bestLoadB {E : AE} (d : Nat) (m : Int32) (w : Int32) {nv : Nat} {nc : Nat} {nr : Nat} {ne : Nat}  {o0 m0 u0 l0 : List AC} {T K : Nat → Nat → Int32} {os sc : Int32} {tc tp : Nat → Int32} {tl_ tn trd tv tdg tf tla : Int32} {pg ph pc : Nat → Int32} {pm : Int32} (hT : TI T nv nc nr ne) (ho0 : ¬ wi m (nI 1) (nI 100) = 0) (hx : wi w (nI 0) (nI 4) = 0) (hex : E.ex = false) : CT E M_X4_bestLoad (d + 8) [.ref 4096, .int (m), .int (w)] (hp o0 (ar T K os sc) (te_ tc tp tl_ tn trd tv tdg tf tla) (pl pg ph pc pm) m0 u0 l0) (.inr "java/lang/IllegalArgumentException") (hp o0 (ar T K os sc) (te_ tc tp tl_ tn trd tv tdg tf tla) (pl pg ph pc pm) m0 u0 l0) 1 6 := by
  obtain ⟨⟨hnv, h12⟩, ⟨hnc, h4⟩, ⟨hnr, h3⟩, ⟨hne, h60⟩, hLT, hHT⟩ := id hT
  refine CT.of (L := [some (.ref 4096), some (.int (m)), some (.int (w))]) rfl rfl ?_
  refine AR.run g_X4_bestLoad_0_3 4 [some (.ref 4096), some (.int (m)), some (.int (w))] [.int (nI (100)), .int (nI (1)), .int (m)] _ [] rfl trivial ?_
  refine AR.callS0 [.int (m), .int (nI (1)), .int (nI (100))] [] lk_4_30 dc_X4_bestLoad_4 (s_4requireRangeO _ m (nI (1)) (nI (100)) (by assumption)) (by first | rfl | (simp only [nI_add, pk_mul]; first | done | rfl)) rfl ?_
  refine AR.run g_X4_bestLoad_7_3 10 [some (.ref 4096), some (.int (m)), some (.int (w))] [.int (nI (4)), .int (nI (0)), .int (w)] _ [] rfl trivial ?_
  exact AR.end' rfl rfl (AR.room (by omega) (by omega) (AR.callSx [.int (w), .int (nI (0)), .int (nI (4))] [] lk_4_30 dc_X4_bestLoad_10 (s_4requireRangeB _ w (nI (0)) (nI (4)) (by assumption) (by assumption)) (by first | rfl | (simp only [nI_add, pk_mul]; first | done | rfl)) rfl rfl))
def F_4bestLoad (m : Int32) (w : Nat) (nv : Nat) (nc : Nat) (T : Nat → Nat → Int32) (pg : Nat → Int32) (ph : Nat → Int32) (pc : Nat → Int32) : Int32 := (F_2answer w (F_2make_pc m nv nc T pg ph pc) (F_2make_pm m nv nc T pg ph pc))
def F_4bestLoad_T (m : Int32) (nv : Nat) (nc : Nat) (T : Nat → Nat → Int32) (pg : Nat → Int32) (ph : Nat → Int32) : Nat → Nat → Int32 := (F_2make_T m nv nc T pg ph)
def F_4bestLoad_pg (m : Int32) (nv : Nat) (nc : Nat) (T : Nat → Nat → Int32) (pg : Nat → Int32) (ph : Nat → Int32) : Nat → Int32 := (F_2make_pg m nv nc T pg ph)
def F_4bestLoad_ph (m : Int32) (nv : Nat) (nc : Nat) (T : Nat → Nat → Int32) (pg : Nat → Int32) (ph : Nat → Int32) : Nat → Int32 := (F_2make_ph m nv nc T pg ph)
def F_4bestLoad_pc (m : Int32) (nv : Nat) (nc : Nat) (T : Nat → Nat → Int32) (pg : Nat → Int32) (ph : Nat → Int32) (pc : Nat → Int32) : Nat → Int32 := (F_2make_pc m nv nc T pg ph pc)
def F_4bestLoad_pm (m : Int32) (nv : Nat) (nc : Nat) (T : Nat → Nat → Int32) (pg : Nat → Int32) (ph : Nat → Int32) (pc : Nat → Int32) : Int32 := (F_2make_pm m nv nc T pg ph pc)
theorem g_X4_bestLoad_13_5 : ab_oks M_X4_bestLoad [(13, .aload_n 0, 1, 0, 0, 0, .null), (14, .getfield 26, 3, 4, 2, 173, .null), (17, .aload_n 0, 1, 0, 0, 0, .null), (18, .getfield 10, 3, 4, 0, 171, .null), (21, .iload_n 1, 1, 1, 0, 0, .null)] = true := by decide +kernel
theorem lk_4_197 : ab_lkV "LeafCradles" 197 M_X2_make 2 [530, 531, 532, 34, 533] = true := by decide +kernel
theorem dc_X4_bestLoad_22 : decode (AM.bytes M_X4_bestLoad) 22 = .ok (.invokevirtual 197, 3) := by decide +kernel
theorem g_X4_bestLoad_25_3 : ab_oks M_X4_bestLoad [(25, .aload_n 0, 1, 0, 0, 0, .null), (26, .getfield 26, 3, 4, 2, 173, .null), (29, .iload_n 2, 1, 2, 0, 0, .null)] = true := by decide +kernel
theorem lk_4_201 : ab_lkV "LeafCradles" 201 M_X2_answer 1 [557, 558, 559, 34, 560] = true := by decide +kernel
theorem dc_X4_bestLoad_30 : decode (AM.bytes M_X4_bestLoad) 30 = .ok (.invokevirtual 201, 3) := by decide +kernel
theorem dc_X4_bestLoad_33 : decode (AM.bytes M_X4_bestLoad) 33 = .ok (.ireturn, 1) := by decide +kernel
set_option maxRecDepth 100000 in
set_option maxHeartbeats 4000000 in
theorem s_4bestLoad {E : AE} (d : Nat) (m : Int32) (w : Nat) {nv : Nat} {nc : Nat} {nr : Nat} {ne : Nat}  {o0 m0 u0 l0 : List AC} {T K : Nat → Nat → Int32} {os sc : Int32} {tc tp : Nat → Int32} {tl_ tn trd tv tdg tf tla : Int32} {pg ph pc : Nat → Int32} {pm : Int32} (hT : TI T nv nc nr ne) (ho0 : ¬ wi m (nI 1) (nI 100) = 0) (hw : w < 5) : CT E M_X4_bestLoad (d + 8) [.ref 4096, .int (m), .int (nI (w))] (hp o0 (ar T K os sc) (te_ tc tp tl_ tn trd tv tdg tf tla) (pl pg ph pc pm) m0 u0 l0) (.inl (some (.int (F_4bestLoad m w nv nc T pg ph pc)))) (hp o0 (ar (F_4bestLoad_T m nv nc T pg ph) K os sc) (te_ tc tp tl_ tn trd tv tdg tf tla) (pl (F_4bestLoad_pg m nv nc T pg ph) (F_4bestLoad_ph m nv nc T pg ph) (F_4bestLoad_pc m nv nc T pg ph pc) (F_4bestLoad_pm m nv nc T pg ph pc)) m0 u0 l0) 0 0 := by
  obtain ⟨⟨hnv, h12⟩, ⟨hnc, h4⟩, ⟨hnr, h3⟩, ⟨hne, h60⟩, hLT, hHT⟩ := id hT
  refine CT.of (L := [some (.ref 4096), some (.int (m)), some (.int (nI (w)))]) rfl rfl ?_
  refine AR.run g_X4_bestLoad_0_3 4 [some (.ref 4096), some (.int (m)), some (.int (nI (w)))] [.int (nI (100)), .int (nI (1)), .int (m)] _ [] rfl trivial ?_
  refine AR.callS0 [.int (m), .int (nI (1)), .int (nI (100))] [] lk_4_30 dc_X4_bestLoad_4 (s_4requireRangeO _ m (nI (1)) (nI (100)) (by assumption)) (by first | rfl | (simp only [nI_add, pk_mul]; first | done | rfl)) rfl ?_
  refine AR.run g_X4_bestLoad_7_3 10 [some (.ref 4096), some (.int (m)), some (.int (nI (w)))] [.int (nI (4)), .int (nI (0)), .int (nI (w))] _ [] rfl trivial ?_
  refine AR.callS0 [.int (nI (w)), .int (nI (0)), .int (nI (4))] [] lk_4_30 dc_X4_bestLoad_10 (s_4requireRangeO _ (nI (w)) (nI (0)) (nI (4)) (by first | assumption | exact wi_in (by omega) (by omega) (by decide))) (by first | rfl | (simp only [nI_add, pk_mul]; first | done | rfl)) rfl ?_
  refine AR.run g_X4_bestLoad_13_5 22 [some (.ref 4096), some (.int (m)), some (.int (nI (w)))] [.int (m), .ref 4097, .ref 12288] _ [] rfl trivial ?_
  refine AR.callV0 (12288) [.ref 4097, .int (m)] [] lk_4_197 dc_X4_bestLoad_22 rfl rfl (s_2make _ m (by assumption)) (by first | rfl | (simp only [nI_add, pk_mul]; first | done | rfl)) rfl ?_
  refine AR.run g_X4_bestLoad_25_3 30 [some (.ref 4096), some (.int (m)), some (.int (nI (w)))] [.int (nI (w)), .ref 12288] _ [] rfl trivial ?_
  refine AR.callV1 (12288) [.int (nI (w))] [] lk_4_201 dc_X4_bestLoad_30 rfl rfl (s_2answer _ w (by omega)) (by first | rfl | (simp only [nI_add, pk_mul]; first | done | rfl)) rfl ?_
  have e1_0 : F_4bestLoad m w nv nc T pg ph pc = (F_2answer w (F_2make_pc m nv nc T pg ph pc) (F_2make_pm m nv nc T pg ph pc)) := by rw [F_4bestLoad]
  have e1_1 : F_4bestLoad_T m nv nc T pg ph = (F_2make_T m nv nc T pg ph) := by rw [F_4bestLoad_T]
  have e1_2 : F_4bestLoad_pg m nv nc T pg ph = (F_2make_pg m nv nc T pg ph) := by rw [F_4bestLoad_pg]
  have e1_3 : F_4bestLoad_ph m nv nc T pg ph = (F_2make_ph m nv nc T pg ph) := by rw [F_4bestLoad_ph]
  have e1_4 : F_4bestLoad_pc m nv nc T pg ph pc = (F_2make_pc m nv nc T pg ph pc) := by rw [F_4bestLoad_pc]
  have e1_5 : F_4bestLoad_pm m nv nc T pg ph pc = (F_2make_pm m nv nc T pg ph pc) := by rw [F_4bestLoad_pm]
  exact AR.retI dc_X4_bestLoad_33 rfl e1_0.symm (by rw [e1_1, e1_2, e1_3, e1_4, e1_5])
theorem g_X4_openShare_0_2 : ab_oks M_X4_openShare [(0, .aload_n 0, 1, 0, 0, 0, .null), (1, .getfield 10, 3, 4, 0, 171, .null)] = true := by decide +kernel
theorem lk_4_204 : ab_lkV "LeafCradles" 204 M_X0_shareOfOpenLeaves 0 [369, 370, 371, 30, 372] = true := by decide +kernel
theorem dc_X4_openShare_4 : decode (AM.bytes M_X4_openShare) 4 = .ok (.invokevirtual 204, 3) := by decide +kernel
theorem dc_X4_openShare_7 : decode (AM.bytes M_X4_openShare) 7 = .ok (.dreturn, 1) := by decide +kernel
set_option maxRecDepth 100000 in
set_option maxHeartbeats 4000000 in
theorem s_4openShare {E : AE} (d : Nat) {nv : Nat} {nc : Nat} {nr : Nat} {ne : Nat}  {o0 m0 u0 l0 : List AC} {T K : Nat → Nat → Int32} {os sc : Int32} {tc tp : Nat → Int32} {tl_ tn trd tv tdg tf tla : Int32} {pg ph pc : Nat → Int32} {pm : Int32} (hT : TI T nv nc nr ne) (hnan : 0 < L_0sumOverVolumes_4 2 T nv → vf_n64 (FP.ddiv (FP.i2d (L_0sumOverVolumes_4 9 T nv)) (FP.i2d (L_0sumOverVolumes_4 2 T nv)))) : CT E M_X4_openShare (d + 6) [.ref 4096] (hp o0 (ar T K os sc) (te_ tc tp tl_ tn trd tv tdg tf tla) (pl pg ph pc pm) m0 u0 l0) (.inl (some (.double (F_0shareOfOpenLeaves nv T)))) (hp o0 (ar T K os sc) (te_ tc tp tl_ tn trd tv tdg tf tla) (pl pg ph pc pm) m0 u0 l0) 0 0 := by
  obtain ⟨⟨hnv, h12⟩, ⟨hnc, h4⟩, ⟨hnr, h3⟩, ⟨hne, h60⟩, hLT, hHT⟩ := id hT
  refine CT.of (L := [some (.ref 4096)]) rfl rfl ?_
  refine AR.run g_X4_openShare_0_2 4 [some (.ref 4096)] [.ref 4097] _ [] rfl trivial ?_
  refine AR.callV1 (4097) [] [] lk_4_204 dc_X4_openShare_4 rfl rfl (s_0shareOfOpenLeaves _  (by assumption) (by first | assumption | exact (share_T (by assumption)).2)) (by first | rfl | (simp only [nI_add, pk_mul]; first | done | rfl)) rfl ?_
  exact AR.retD dc_X4_openShare_7 rfl rfl rfl
