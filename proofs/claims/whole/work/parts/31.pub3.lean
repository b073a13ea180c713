def F_5volumeA : Int32 := (nI (0))
theorem F_5volumeA_01 : F_5volumeA  = nI 0 ∨ F_5volumeA  = nI 1 := by
  unfold F_5volumeA
  (repeat' split) <;> first | exact Or.inl rfl | exact Or.inr rfl | exact wi01 _ _ _
def F_5volumeA_th : Int32 := (nI (1))
theorem g_X5_volume_0_5 : ab_oks M_X5_volume [(0, .aload_n 0, 1, 0, 0, 0, .null), (1, .iconst 0, 1, 0, 0, 0, .int (nI (0))), (2, .putfield 40, 3, 5, 15, 951, .null), (5, .aload_n 0, 1, 0, 0, 0, .null), (6, .iload_n 1, 1, 1, 0, 0, .null)] = true := by decide +kernel
theorem dc_X5_volume_7 : decode (AM.bytes M_X5_volume) 7 = .ok (.invokevirtual 85, 3) := by decide +kernel
theorem dc_X5_volume_10 : decode (AM.bytes M_X5_volume) 10 = .ok (.ifCond .ne 9, 3) := by decide +kernel
theorem g_X5_volume_13_2 : ab_oks M_X5_volume [(13, .aload_n 0, 1, 0, 0, 0, .null), (14, .iconst 1, 1, 0, 0, 0, .int (nI (1)))] = true := by decide +kernel
theorem dc_X5_volume_15 : decode (AM.bytes M_X5_volume) 15 = .ok (.invokevirtual 51, 3) := by decide +kernel
theorem dc_X5_volume_18 : decode (AM.bytes M_X5_volume) 18 = .ok (.ireturn, 1) := by decide +kernel
set_option maxRecDepth 100000 in
set_option maxHeartbeats 4000000 in
theorem s_5volumeA {E : AE} (d : Nat) (x : Int32) (y : Int32) {nv : Nat} {nc : Nat} {nr : Nat} {ne : Nat}  {o0 a0 t0 p0 u0 l0 : List AC} {z sa ro te fr to un ga pi be : Nat → Int32} {bm en sta sv ln th : Int32} {hh : Int64} (hZ : ZI z nv nc nr ne) (hbad : ¬ ∃ q9 : Nat, q9 < nv ∧ x = nI q9) : CT E M_X5_volume (d + 4) [.ref 16384, .int (x), .int (y)] (hp o0 a0 t0 p0 (mo z sa ro te fr to un ga pi be bm en sta sv ln th hh) u0 l0) (.inl (some (.int (F_5volumeA)))) (hp o0 a0 t0 p0 (mo z sa ro te fr to un ga pi be bm en sta sv ln F_5volumeA_th hh) u0 l0) 0 0 := by
  obtain ⟨⟨hnv, h12⟩, ⟨hnc, h4⟩, ⟨hnr, h3⟩, ⟨hne, h60⟩, hLV⟩ := id hZ
  refine CT.of (L := [some (.ref 16384), some (.int (x)), some (.int (y))]) rfl rfl ?_
  refine AR.run g_X5_volume_0_5 7 [some (.ref 16384), some (.int (x)), some (.int (y))] [.int (x), .ref 16384] (hp o0 a0 t0 p0 (mo z sa ro te fr to un ga pi be bm en sta sv ln (nI (0)) hh) u0 l0) [] rfl trivial ?_
  refine AR.callV1 (16384) [.int (x)] [] lk_5_85 dc_X5_volume_7 rfl rfl (CT.ret (s_isVolume _ x hZ.1.1) (wiV_f (by omega) (by assumption))) (by first | rfl | (simp only [nI_add, pk_mul]; first | done | rfl)) rfl ?_
  refine AR.neN (tgt := 19) (a := 0) dc_X5_volume_10 (by decide) (by first | rfl | (simp only [nI_add, pk_mul]; first | done | rfl)) (by omega) (fun c10_1 => absurd c10_1 (by omega)) (fun c10_1 => ?_)
  refine AR.run g_X5_volume_13_2 15 [some (.ref 16384), some (.int (x)), some (.int (y))] [.int (nI (1)), .ref 16384] _ [] rfl trivial ?_
  refine AR.callV1 (16384) [.int (nI (1))] [] lk_5_51 dc_X5_volume_15 rfl rfl (s_fails _ (nI (1)) ) (by first | rfl | (simp only [nI_add, pk_mul]; first | done | rfl)) rfl ?_
  have e2_0 : F_5volumeA = (nI (0)) := by rw [F_5volumeA]
  have e2_1 : F_5volumeA_th = (nI (1)) := by rw [F_5volumeA_th]
  exact AR.retI dc_X5_volume_18 rfl e2_0.symm (by rw [e2_1])
def F_5volumeB : Int32 := (nI (0))
theorem F_5volumeB_01 : F_5volumeB  = nI 0 ∨ F_5volumeB  = nI 1 := by
  unfold F_5volumeB
  (repeat' split) <;> first | exact Or.inl rfl | exact Or.inr rfl | exact wi01 _ _ _
def F_5volumeB_th : Int32 := (nI (2))
theorem g_X5_volume_19_3 : ab_oks M_X5_volume [(19, .iload_n 2, 1, 2, 0, 0, .null), (20, .iconst 0, 1, 0, 0, 0, .int (nI (0))), (21, .bipush 11, 2, 0, 0, 0, .int (nI (11)))] = true := by decide +kernel
theorem dc_X5_volume_23 : decode (AM.bytes M_X5_volume) 23 = .ok (.invokestatic 44, 3) := by decide +kernel
theorem dc_X5_volume_26 : decode (AM.bytes M_X5_volume) 26 = .ok (.ifCond .eq 12, 3) := by decide +kernel
theorem g_X5_volume_38_2 : ab_oks M_X5_volume [(38, .aload_n 0, 1, 0, 0, 0, .null), (39, .iconst 2, 1, 0, 0, 0, .int (nI (2)))] = true := by decide +kernel
theorem dc_X5_volume_40 : decode (AM.bytes M_X5_volume) 40 = .ok (.invokevirtual 51, 3) := by decide +kernel
theorem dc_X5_volume_43 : decode (AM.bytes M_X5_volume) 43 = .ok (.ireturn, 1) := by decide +kernel
set_option maxRecDepth 100000 in
set_option maxHeartbeats 4000000 in
theorem s_5volumeB {E : AE} (d : Nat) (v : Nat) (x : Int32) {nv : Nat} {nc : Nat} {nr : Nat} {ne : Nat}  {o0 a0 t0 p0 u0 l0 : List AC} {z sa ro te fr to un ga pi be : Nat → Int32} {bm en sta sv ln th : Int32} {hh : Int64} (hZ : ZI z nv nc nr ne) (hv : v < nv) (hx : wi x (nI 0) (nI 11) = nI 0) : CT E M_X5_volume (d + 4) [.ref 16384, .int (nI (v)), .int (x)] (hp o0 a0 t0 p0 (mo z sa ro te fr to un ga pi be bm en sta sv ln th hh) u0 l0) (.inl (some (.int (F_5volumeB)))) (hp o0 a0 t0 p0 (mo z sa ro te fr to un ga pi be bm en sta sv ln F_5volumeB_th hh) u0 l0) 0 0 := by
  obtain ⟨⟨hnv, h12⟩, ⟨hnc, h4⟩, ⟨hnr, h3⟩, ⟨hne, h60⟩, hLV⟩ := id hZ
  refine CT.of (L := [some (.ref 16384), some (.int (nI (v))), some (.int (x))]) rfl rfl ?_
  refine AR.run g_X5_volume_0_5 7 [some (.ref 16384), some (.int (nI (v))), some (.int (x))] [.int (nI (v)), .ref 16384] (hp o0 a0 t0 p0 (mo z sa ro te fr to un ga pi be bm en sta sv ln (nI (0)) hh) u0 l0) [] rfl trivial ?_
  refine AR.callV1 (16384) [.int (nI (v))] [] lk_5_85 dc_X5_volume_7 rfl rfl (CT.ret (s_isVolume _ (nI (v)) hZ.1.1) (wiV_t (by omega) (by omega))) (by first | rfl | (simp only [nI_add, pk_mul]; first | done | rfl)) rfl ?_
  refine AR.neN (tgt := 19) (a := 1) dc_X5_volume_10 (by decide) (by first | rfl | (simp only [nI_add, pk_mul]; first | done | rfl)) (by omega) (fun c10_1 => ?_) (fun c10_1 => absurd c10_1 (by omega))
  refine AR.run g_X5_volume_19_3 23 [some (.ref 16384), some (.int (nI (v))), some (.int (x))] [.int (nI (11)), .int (nI (0)), .int (x)] _ [] rfl trivial ?_
  refine AR.callS1 [.int (x), .int (nI (0)), .int (nI (11))] [] lk_5_44 dc_X5_volume_23 (s_within _ x (nI (0)) (nI (11)) ) (by first | rfl | (simp only [nI_add, pk_mul]; first | done | rfl)) rfl ?_
  refine AR.top hx ?_
  refine AR.eqN (tgt := 38) (a := 0) dc_X5_volume_26 (by decide) (by first | rfl | (simp only [nI_add, pk_mul]; first | done | rfl)) (by omega) (fun c26_2 => ?_) (fun c26_2 => absurd c26_2 (by omega))
  refine AR.run g_X5_volume_38_2 40 [some (.ref 16384), some (.int (nI (v))), some (.int (x))] [.int (nI (2)), .ref 16384] _ [] rfl trivial ?_
  refine AR.callV1 (16384) [.int (nI (2))] [] lk_5_51 dc_X5_volume_40 rfl rfl (s_fails _ (nI (2)) ) (by first | rfl | (simp only [nI_add, pk_mul]; first | done | rfl)) rfl ?_
  have e3_0 : F_5volumeB = (nI (0)) := by rw [F_5volumeB]
  have e3_1 : F_5volumeB_th = (nI (2)) := by rw [F_5volumeB_th]
  exact AR.retI dc_X5_volume_43 rfl e3_0.symm (by rw [e3_1])
def F_5volume (v : Nat) (w : Nat) (z : Nat → Int32) : Int32 := (F_5volumeNow v w z)
def F_5volume_th : Int32 := (nI (0))
theorem g_X5_volume_29_3 : ab_oks M_X5_volume [(29, .aload_n 0, 1, 0, 0, 0, .null), (30, .iload_n 1, 1, 1, 0, 0, .null), (31, .iload_n 2, 1, 2, 0, 0, .null)] = true := by decide +kernel
theorem dc_X5_volume_32 : decode (AM.bytes M_X5_volume) 32 = .ok (.invokevirtual 161, 3) := by decide +kernel
theorem g_X5_volume_35_1 : ab_oks M_X5_volume [(35, .goto 8, 3, 43, 0, 0, .null)] = true := by decide +kernel
set_option maxRecDepth 100000 in
set_option maxHeartbeats 4000000 in
theorem s_5volume {E : AE} (d : Nat) (v : Nat) (w : Nat) {nv : Nat} {nc : Nat} {nr : Nat} {ne : Nat}  {o0 a0 t0 p0 u0 l0 : List AC} {z sa ro te fr to un ga pi be : Nat → Int32} {bm en sta sv ln th : Int32} {hh : Int64} (hZ : ZI z nv nc nr ne) (hv : v < nv) (hw : w < 12) : CT E M_X5_volume (d + 4) [.ref 16384, .int (nI (v)), .int (nI (w))] (hp o0 a0 t0 p0 (mo z sa ro te fr to un ga pi be bm en sta sv ln th hh) u0 l0) (.inl (some (.int (F_5volume v w z)))) (hp o0 a0 t0 p0 (mo z sa ro te fr to un ga pi be bm en sta sv ln F_5volume_th hh) u0 l0) 0 0 := by
  obtain ⟨⟨hnv, h12⟩, ⟨hnc, h4⟩, ⟨hnr, h3⟩, ⟨hne, h60⟩, hLV⟩ := id hZ
  refine CT.of (L := [some (.ref 16384), some (.int (nI (v))), some (.int (nI (w)))]) rfl rfl ?_
  refine AR.run g_X5_volume_0_5 7 [some (.ref 16384), some (.int (nI (v))), some (.int (nI (w)))] [.int (nI (v)), .ref 16384] (hp o0 a0 t0 p0 (mo z sa ro te fr to un ga pi be bm en sta sv ln (nI (0)) hh) u0 l0) [] rfl trivial ?_
  refine AR.callV1 (16384) [.int (nI (v))] [] lk_5_85 dc_X5_volume_7 rfl rfl (CT.ret (s_isVolume _ (nI (v)) hZ.1.1) (wiV_t (by omega) (by omega))) (by first | rfl | (simp only [nI_add, pk_mul]; first | done | rfl)) rfl ?_
  refine AR.neN (tgt := 19) (a := 1) dc_X5_volume_10 (by decide) (by first | rfl | (simp only [nI_add, pk_mul]; first | done | rfl)) (by omega) (fun c10_1 => ?_) (fun c10_1 => absurd c10_1 (by omega))
  refine AR.run g_X5_volume_19_3 23 [some (.ref 16384), some (.int (nI (v))), some (.int (nI (w)))] [.int (nI (11)), .int (nI (0)), .int (nI (w))] _ [] rfl trivial ?_
  refine AR.callS1 [.int (nI (w)), .int (nI (0)), .int (nI (11))] [] lk_5_44 dc_X5_volume_23 (s_within _ (nI (w)) (nI (0)) (nI (11)) ) (by first | rfl | (simp only [nI_add, pk_mul]; first | done | rfl)) rfl ?_
  refine AR.top (wiN_t (by omega) (by omega) (by decide)) ?_
  refine AR.eqN (tgt := 38) (a := 1) dc_X5_volume_26 (by decide) (by first | rfl | (simp only [nI_add, pk_mul]; first | done | rfl)) (by omega) (fun c26_2 => absurd c26_2 (by omega)) (fun c26_2 => ?_)
  refine AR.run g_X5_volume_29_3 32 [some (.ref 16384), some (.int (nI (v))), some (.int (nI (w)))] [.int (nI (w)), .int (nI (v)), .ref 16384] _ [] rfl trivial ?_
  refine AR.callV1 (16384) [.int (nI (v)), .int (nI (w))] [] lk_5_161 dc_X5_volume_32 rfl rfl (s_5volumeNow _ v w (by omega) (by first | assumption | exact (hLV v (by omega)).1) (by first | assumption | exact (hLV v (by omega)).2) (by omega)) (by first | rfl | (simp only [nI_add, pk_mul]; first | done | rfl)) rfl ?_
  refine AR.run g_X5_volume_35_1 43 [some (.ref 16384), some (.int (nI (v))), some (.int (nI (w)))] [.int (F_5volumeNow v w z)] _ [] rfl trivial ?_
  have e3_0 : F_5volume v w z = (F_5volumeNow v w z) := by rw [F_5volume]
  have e3_1 : F_5volume_th = (nI (0)) := by rw [F_5volume_th]
  exact AR.retI dc_X5_volume_43 rfl e3_0.symm (by rw [e3_1])
def F_5cradleA : Int32 := (nI (0))
theorem F_5cradleA_01 : F_5cradleA  = nI 0 ∨ F_5cradleA  = nI 1 := by
  unfold F_5cradleA
  (repeat' split) <;> first | exact Or.inl rfl | exact Or.inr rfl | exact wi01 _ _ _
def F_5cradleA_th : Int32 := (nI (1))
theorem g_X5_cradle_0_5 : ab_oks M_X5_cradle [(0, .aload_n 0, 1, 0, 0, 0, .null), (1, .iconst 0, 1, 0, 0, 0, .int (nI (0))), (2, .putfield 40, 3, 5, 15, 951, .null), (5, .aload_n 0, 1, 0, 0, 0, .null), (6, .iload_n 1, 1, 1, 0, 0, .null)] = true := by decide +kernel
theorem dc_X5_cradle_7 : decode (AM.bytes M_X5_cradle) 7 = .ok (.invokevirtual 89, 3) := by decide +kernel
theorem dc_X5_cradle_10 : decode (AM.bytes M_X5_cradle) 10 = .ok (.ifCond .ne 9, 3) := by decide +kernel
theorem g_X5_cradle_13_2 : ab_oks M_X5_cradle [(13, .aload_n 0, 1, 0, 0, 0, .null), (14, .iconst 1, 1, 0, 0, 0, .int (nI (1)))] = true := by decide +kernel
theorem dc_X5_cradle_15 : decode (AM.bytes M_X5_cradle) 15 = .ok (.invokevirtual 51, 3) := by decide +kernel
theorem dc_X5_cradle_18 : decode (AM.bytes M_X5_cradle) 18 = .ok (.ireturn, 1) := by decide +kernel
set_option maxRecDepth 100000 in
set_option maxHeartbeats 4000000 in
theorem s_5cradleA {E : AE} (d : Nat) (x : Int32) (y : Int32) {nv : Nat} {nc : Nat} {nr : Nat} {ne : Nat}  {o0 a0 t0 p0 u0 l0 : List AC} {z sa ro te fr to un ga pi be : Nat → Int32} {bm en sta sv ln th : Int32} {hh : Int64} (hZ : ZI z nv nc nr ne) (hbad : ¬ ∃ q9 : Nat, q9 < nc ∧ x = nI q9) : CT E M_X5_cradle (d + 4) [.ref 16384, .int (x), .int (y)] (hp o0 a0 t0 p0 (mo z sa ro te fr to un ga pi be bm en sta sv ln th hh) u0 l0) (.inl (some (.int (F_5cradleA)))) (hp o0 a0 t0 p0 (mo z sa ro te fr to un ga pi be bm en sta sv ln F_5cradleA_th hh) u0 l0) 0 0 := by
  obtain ⟨⟨hnv, h12⟩, ⟨hnc, h4⟩, ⟨hnr, h3⟩, ⟨hne, h60⟩, hLV⟩ := id hZ
  refine CT.of (L := [some (.ref 16384), some (.int (x)), some (.int (y))]) rfl rfl ?_
  refine AR.run g_X5_cradle_0_5 7 [some (.ref 16384), some (.int (x)), some (.int (y))] [.int (x), .ref 16384] (hp o0 a0 t0 p0 (mo z sa ro te fr to un ga pi be bm en sta sv ln (nI (0)) hh) u0 l0) [] rfl trivial ?_
  refine AR.callV1 (16384) [.int (x)] [] lk_5_89 dc_X5_cradle_7 rfl rfl (CT.ret (s_isCradle _ x hZ.2.1.1) (wiV_f (by omega) (by assumption))) (by first | rfl | (simp only [nI_add, pk_mul]; first | done | rfl)) rfl ?_
  refine AR.neN (tgt := 19) (a := 0) dc_X5_cradle_10 (by decide) (by first | rfl | (simp only [nI_add, pk_mul]; first | done | rfl)) (by omega) (fun c10_1 => absurd c10_1 (by omega)) (fun c10_1 => ?_)
  refine AR.run g_X5_cradle_13_2 15 [some (.ref 16384), some (.int (x)), some (.int (y))] [.int (nI (1)), .ref 16384] _ [] rfl trivial ?_
  refine AR.callV1 (16384) [.int (nI (1))] [] lk_5_51 dc_X5_cradle_15 rfl rfl (s_fails _ (nI (1)) ) (by first | rfl | (simp only [nI_add, pk_mul]; first | done | rfl)) rfl ?_
  have e2_0 : F_5cradleA = (nI (0)) := by rw [F_5cradleA]
  have e2_1 : F_5cradleA_th = (nI (1)) := by rw [F_5cradleA_th]
  exact AR.retI dc_X5_cradle_18 rfl e2_0.symm (by rw [e2_1])
def F_5cradleB : Int32 := (nI (0))
theorem F_5cradleB_01 : F_5cradleB  = nI 0 ∨ F_5cradleB  = nI 1 := by
  unfold F_5cradleB
  (repeat' split) <;> first | exact Or.inl rfl | exact Or.inr rfl | exact wi01 _ _ _
def F_5cradleB_th : Int32 := (nI (2))
theorem g_X5_cradle_19_3 : ab_oks M_X5_cradle [(19, .iload_n 2, 1, 2, 0, 0, .null), (20, .iconst 0, 1, 0, 0, 0, .int (nI (0))), (21, .iconst 5, 1, 0, 0, 0, .int (nI (5)))] = true := by decide +kernel
theorem dc_X5_cradle_22 : decode (AM.bytes M_X5_cradle) 22 = .ok (.invokestatic 44, 3) := by decide +kernel
theorem dc_X5_cradle_25 : decode (AM.bytes M_X5_cradle) 25 = .ok (.ifCond .eq 12, 3) := by decide +kernel
theorem g_X5_cradle_37_2 : ab_oks M_X5_cradle [(37, .aload_n 0, 1, 0, 0, 0, .null), (38, .iconst 2, 1, 0, 0, 0, .int (nI (2)))] = true := by decide +kernel
theorem dc_X5_cradle_39 : decode (AM.bytes M_X5_cradle) 39 = .ok (.invokevirtual 51, 3) := by decide +kernel
theorem dc_X5_cradle_42 : decode (AM.bytes M_X5_cradle) 42 = .ok (.ireturn, 1) := by decide +kernel
set_option maxRecDepth 100000 in
set_option maxHeartbeats 4000000 in
theorem s_5cradleB {E : AE} (d : Nat) (c : Nat) (x : Int32) {nv : Nat} {nc : Nat} {nr : Nat} {ne : Nat}  {o0 a0 t0 p0 u0 l0 : List AC} {z sa ro te fr to un ga pi be : Nat → Int32} {bm en sta sv ln th : Int32} {hh : Int64} (hZ : ZI z nv nc nr ne) (hc : c < nc) (hx : wi x (nI 0) (nI 5) = nI 0) : CT E M_X5_cradle (d + 4) [.ref 16384, .int (nI (c)), .int (x)] (hp o0 a0 t0 p0 (mo z sa ro te fr to un ga pi be bm en sta sv ln th hh) u0 l0) (.inl (some (.int (F_5cradleB)))) (hp o0 a0 t0 p0 (mo z sa ro te fr to un ga pi be bm en sta sv ln F_5cradleB_th hh) u0 l0) 0 0 := by
  obtain ⟨⟨hnv, h12⟩, ⟨hnc, h4⟩, ⟨hnr, h3⟩, ⟨hne, h60⟩, hLV⟩ := id hZ
  refine CT.of (L := [some (.ref 16384), some (.int (nI (c))), some (.int (x))]) rfl rfl ?_
  refine AR.run g_X5_cradle_0_5 7 [some (.ref 16384), some (.int (nI (c))), some (.int (x))] [.int (nI (c)), .ref 16384] (hp o0 a0 t0 p0 (mo z sa ro te fr to un ga pi be bm en sta sv ln (nI (0)) hh) u0 l0) [] rfl trivial ?_
  refine AR.callV1 (16384) [.int (nI (c))] [] lk_5_89 dc_X5_cradle_7 rfl rfl (CT.ret (s_isCradle _ (nI (c)) hZ.2.1.1) (wiV_t (by omega) (by omega))) (by first | rfl | (simp only [nI_add, pk_mul]; first | done | rfl)) rfl ?_
  refine AR.neN (tgt := 19) (a := 1) dc_X5_cradle_10 (by decide) (by first | rfl | (simp only [nI_add, pk_mul]; first | done | rfl)) (by omega) (fun c10_1 => ?_) (fun c10_1 => absurd c10_1 (by omega))
  refine AR.run g_X5_cradle_19_3 22 [some (.ref 16384), some (.int (nI (c))), some (.int (x))] [.int (nI (5)), .int (nI (0)), .int (x)] _ [] rfl trivial ?_
  refine AR.callS1 [.int (x), .int (nI (0)), .int (nI (5))] [] lk_5_44 dc_X5_cradle_22 (s_within _ x (nI (0)) (nI (5)) ) (by first | rfl | (simp only [nI_add, pk_mul]; first | done | rfl)) rfl ?_
  refine AR.top hx ?_
  refine AR.eqN (tgt := 37) (a := 0) dc_X5_cradle_25 (by decide) (by first | rfl | (simp only [nI_add, pk_mul]; first | done | rfl)) (by omega) (fun c25_2 => ?_) (fun c25_2 => absurd c25_2 (by omega))
  refine AR.run g_X5_cradle_37_2 39 [some (.ref 16384), some (.int (nI (c))), some (.int (x))] [.int (nI (2)), .ref 16384] _ [] rfl trivial ?_
  refine AR.callV1 (16384) [.int (nI (2))] [] lk_5_51 dc_X5_cradle_39 rfl rfl (s_fails _ (nI (2)) ) (by first | rfl | (simp only [nI_add, pk_mul]; first | done | rfl)) rfl ?_
  have e3_0 : F_5cradleB = (nI (0)) := by rw [F_5cradleB]
  have e3_1 : F_5cradleB_th = (nI (2)) := by rw [F_5cradleB_th]
  exact AR.retI dc_X5_cradle_42 rfl e3_0.symm (by rw [e3_1])
def F_5cradle (c : Nat) (w : Nat) (nv : Nat) (z : Nat → Int32) : Int32 := (F_5cradleNow c w nv z)
def F_5cradle_th : Int32 := (nI (0))
theorem g_X5_cradle_28_3 : ab_oks M_X5_cradle [(28, .aload_n 0, 1, 0, 0, 0, .null), (29, .iload_n 1, 1, 1, 0, 0, .null), (30, .iload_n 2, 1, 2, 0, 0, .null)] = true := by decide +kernel
theorem dc_X5_cradle_31 : decode (AM.bytes M_X5_cradle) 31 = .ok (.invokevirtual 167, 3) := by decide +kernel
theorem g_X5_cradle_34_1 : ab_oks M_X5_cradle [(34, .goto 8, 3, 42, 0, 0, .null)] = true := by decide +kernel
set_option maxRecDepth 100000 in
set_option maxHeartbeats 4000000 in
theorem s_5cradle {E : AE} (d : Nat) (c : Nat) (w : Nat) {nv : Nat} {nc : Nat} {nr : Nat} {ne : Nat}  {o0 a0 t0 p0 u0 l0 : List AC} {z sa ro te fr to un ga pi be : Nat → Int32} {bm en sta sv ln th : Int32} {hh : Int64} (hZ : ZI z nv nc nr ne) (hc : c < nc) (hw : w < 6) : CT E M_X5_cradle (d + 4) [.ref 16384, .int (nI (c)), .int (nI (w))] (hp o0 a0 t0 p0 (mo z sa ro te fr to un ga pi be bm en sta sv ln th hh) u0 l0) (.inl (some (.int (F_5cradle c w nv z)))) (hp o0 a0 t0 p0 (mo z sa ro te fr to un ga pi be bm en sta sv ln F_5cradle_th hh) u0 l0) 0 0 := by
  obtain ⟨⟨hnv, h12⟩, ⟨hnc, h4⟩, ⟨hnr, h3⟩, ⟨hne, h60⟩, hLV⟩ := id hZ
  refine CT.of (L := [some (.ref 16384), some (.int (nI (c))), some (.int (nI (w)))]) rfl rfl ?_
  refine AR.run g_X5_cradle_0_5 7 [some (.ref 16384), some (.int (nI (c))), some (.int (nI (w)))] [.int (nI (c)), .ref 16384] (hp o0 a0 t0 p0 (mo z sa ro te fr to un ga pi be bm en sta sv ln (nI (0)) hh) u0 l0) [] rfl trivial ?_
  refine AR.callV1 (16384) [.int (nI (c))] [] lk_5_89 dc_X5_cradle_7 rfl rfl (CT.ret (s_isCradle _ (nI (c)) hZ.2.1.1) (wiV_t (by omega) (by omega))) (by first | rfl | (simp only [nI_add, pk_mul]; first | done | rfl)) rfl ?_
  refine AR.neN (tgt := 19) (a := 1) dc_X5_cradle_10 (by decide) (by first | rfl | (simp only [nI_add, pk_mul]; first | done | rfl)) (by omega) (fun c10_1 => ?_) (fun c10_1 => absurd c10_1 (by omega))
  refine AR.run g_X5_cradle_19_3 22 [some (.ref 16384), some (.int (nI (c))), some (.int (nI (w)))] [.int (nI (5)), .int (nI (0)), .int (nI (w))] _ [] rfl trivial ?_
  refine AR.callS1 [.int (nI (w)), .int (nI (0)), .int (nI (5))] [] lk_5_44 dc_X5_cradle_22 (s_within _ (nI (w)) (nI (0)) (nI (5)) ) (by first | rfl | (simp only [nI_add, pk_mul]; first | done | rfl)) rfl ?_
  refine AR.top (wiN_t (by omega) (by omega) (by decide)) ?_
  refine AR.eqN (tgt := 37) (a := 1) dc_X5_cradle_25 (by decide) (by first | rfl | (simp only [nI_add, pk_mul]; first | done | rfl)) (by omega) (fun c25_2 => absurd c25_2 (by omega)) (fun c25_2 => ?_)
  refine AR.run g_X5_cradle_28_3 31 [some (.ref 16384), some (.int (nI (c))), some (.int (nI (w)))] [.int (nI (w)), .int (nI (c)), .ref 16384] _ [] rfl trivial ?_
  refine AR.callV1 (16384) [.int (nI (c)), .int (nI (w))] [] lk_5_167 dc_X5_cradle_31 rfl rfl (s_5cradleNow _ c w (by assumption) (by omega) (by omega)) (by first | rfl | (simp only [nI_add, pk_mul]; first | done | rfl)) rfl ?_
  refine AR.run g_X5_cradle_34_1 42 [some (.ref 16384), some (.int (nI (c))), some (.int (nI (w)))] [.int (F_5cradleNow c w nv z)] _ [] rfl trivial ?_
  have e3_0 : F_5cradle c w nv z = (F_5cradleNow c w nv z) := by rw [F_5cradle]
  have e3_1 : F_5cradle_th = (nI (0)) := by rw [F_5cradle_th]
  exact AR.retI dc_X5_cradle_42 rfl e3_0.symm (by rw [e3_1])
def F_5carrierA : Int32 := (nI (0))
theorem F_5carrierA_01 : F_5carrierA  = nI 0 ∨ F_5carrierA  = nI 1 := by
  unfold F_5carrierA
  (repeat' split) <;> first | exact Or.inl rfl | exact Or.inr rfl | exact wi01 _ _ _
def F_5carrierA_th : Int32 := (nI (1))
theorem g_X5_carrier_0_5 : ab_oks M_X5_carrier [(0, .aload_n 0, 1, 0, 0, 0, .null), (1, .iconst 0, 1, 0, 0, 0, .int (nI (0))), (2, .putfield 40, 3, 5, 15, 951, .null), (5, .aload_n 0, 1, 0, 0, 0, .null), (6, .iload_n 1, 1, 1, 0, 0, .null)] = true := by decide +kernel
theorem dc_X5_carrier_7 : decode (AM.bytes M_X5_carrier) 7 = .ok (.invokevirtual 92, 3) := by decide +kernel
theorem dc_X5_carrier_10 : decode (AM.bytes M_X5_carrier) 10 = .ok (.ifCond .ne 9, 3) := by decide +kernel
theorem g_X5_carrier_13_2 : ab_oks M_X5_carrier [(13, .aload_n 0, 1, 0, 0, 0, .null), (14, .iconst 1, 1, 0, 0, 0, .int (nI (1)))] = true := by decide +kernel
theorem dc_X5_carrier_15 : decode (AM.bytes M_X5_carrier) 15 = .ok (.invokevirtual 51, 3) := by decide +kernel
theorem dc_X5_carrier_18 : decode (AM.bytes M_X5_carrier) 18 = .ok (.ireturn, 1) := by decide +kernel
set_option maxRecDepth 100000 in
set_option maxHeartbeats 4000000 in
theorem s_5carrierA {E : AE} (d : Nat) (x : Int32) (y : Int32) {nv : Nat} {nc : Nat} {nr : Nat} {ne : Nat}  {o0 a0 t0 p0 u0 l0 : List AC} {z sa ro te fr to un ga pi be : Nat → Int32} {bm en sta sv ln th : Int32} {hh : Int64} (hZ : ZI z nv nc nr ne) (hbad : ¬ ∃ q9 : Nat, q9 < nr ∧ x = nI q9) : CT E M_X5_carrier (d + 2) [.ref 16384, .int (x), .int (y)] (hp o0 a0 t0 p0 (mo z sa ro te fr to un ga pi be bm en sta sv ln th hh) u0 l0) (.inl (some (.int (F_5carrierA)))) (hp o0 a0 t0 p0 (mo z sa ro te fr to un ga pi be bm en sta sv ln F_5carrierA_th hh) u0 l0) 0 0 := by
  obtain ⟨⟨hnv, h12⟩, ⟨hnc, h4⟩, ⟨hnr, h3⟩, ⟨hne, h60⟩, hLV⟩ := id hZ
  refine CT.of (L := [some (.ref 16384), some (.int (x)), some (.int (y))]) rfl rfl ?_
  refine AR.run g_X5_carrier_0_5 7 [some (.ref 16384), some (.int (x)), some (.int (y))] [.int (x), .ref 16384] (hp o0 a0 t0 p0 (mo z sa ro te fr to un ga pi be bm en sta sv ln (nI (0)) hh) u0 l0) [] rfl trivial ?_
  refine AR.callV1 (16384) [.int (x)] [] lk_5_92 dc_X5_carrier_7 rfl rfl (CT.ret (s_isCarrier _ x hZ.2.2.1.1) (wiV_f (by omega) (by assumption))) (by first | rfl | (simp only [nI_add, pk_mul]; first | done | rfl)) rfl ?_
  refine AR.neN (tgt := 19) (a := 0) dc_X5_carrier_10 (by decide) (by first | rfl | (simp only [nI_add, pk_mul]; first | done | rfl)) (by omega) (fun c10_1 => absurd c10_1 (by omega)) (fun c10_1 => ?_)
  refine AR.run g_X5_carrier_13_2 15 [some (.ref 16384), some (.int (x)), some (.int (y))] [.int (nI (1)), .ref 16384] _ [] rfl trivial ?_
  refine AR.callV1 (16384) [.int (nI (1))] [] lk_5_51 dc_X5_carrier_15 rfl rfl (s_fails _ (nI (1)) ) (by first | rfl | (simp only [nI_add, pk_mul]; first | done | rfl)) rfl ?_
  have e2_0 : F_5carrierA = (nI (0)) := by rw [F_5carrierA]
  have e2_1 : F_5carrierA_th = (nI (1)) := by rw [F_5carrierA_th]
  exact AR.retI dc_X5_carrier_18 rfl e2_0.symm (by rw [e2_1])
def F_5carrierB : Int32 := (nI (0))
theorem F_5carrierB_01 : F_5carrierB  = nI 0 ∨ F_5carrierB  = nI 1 := by
  unfold F_5carrierB
  (repeat' split) <;> first | exact Or.inl rfl | exact Or.inr rfl | exact wi01 _ _ _
def F_5carrierB_th : Int32 := (nI (2))
theorem g_X5_carrier_19_3 : ab_oks M_X5_carrier [(19, .iload_n 2, 1, 2, 0, 0, .null), (20, .iconst 0, 1, 0, 0, 0, .int (nI (0))), (21, .iconst 3, 1, 0, 0, 0, .int (nI (3)))] = true := by decide +kernel
theorem dc_X5_carrier_22 : decode (AM.bytes M_X5_carrier) 22 = .ok (.invokestatic 44, 3) := by decide +kernel
theorem dc_X5_carrier_25 : decode (AM.bytes M_X5_carrier) 25 = .ok (.ifCond .eq 12, 3) := by decide +kernel
theorem g_X5_carrier_37_2 : ab_oks M_X5_carrier [(37, .aload_n 0, 1, 0, 0, 0, .null), (38, .iconst 2, 1, 0, 0, 0, .int (nI (2)))] = true := by decide +kernel
theorem dc_X5_carrier_39 : decode (AM.bytes M_X5_carrier) 39 = .ok (.invokevirtual 51, 3) := by decide +kernel
theorem dc_X5_carrier_42 : decode (AM.bytes M_X5_carrier) 42 = .ok (.ireturn, 1) := by decide +kernel
set_option maxRecDepth 100000 in
set_option maxHeartbeats 4000000 in
theorem s_5carrierB {E : AE} (d : Nat) (r : Nat) (x : Int32) {nv : Nat} {nc : Nat} {nr : Nat} {ne : Nat}  {o0 a0 t0 p0 u0 l0 : List AC} {z sa ro te fr to un ga pi be : Nat → Int32} {bm en sta sv ln th : Int32} {hh : Int64} (hZ : ZI z nv nc nr ne) (hr : r < nr) (hx : wi x (nI 0) (nI 3) = nI 0) : CT E M_X5_carrier (d + 2) [.ref 16384, .int (nI (r)), .int (x)] (hp o0 a0 t0 p0 (mo z sa ro te fr to un ga pi be bm en sta sv ln th hh) u0 l0) (.inl (some (.int (F_5carrierB)))) (hp o0 a0 t0 p0 (mo z sa ro te fr to un ga pi be bm en sta sv ln F_5carrierB_th hh) u0 l0) 0 0 := by
  obtain ⟨⟨hnv, h12⟩, ⟨hnc, h4⟩, ⟨hnr, h3⟩, ⟨hne, h60⟩, hLV⟩ := id hZ
  refine CT.of (L := [some (.ref 16384), some (.int (nI (r))), some (.int (x))]) rfl rfl ?_
  refine AR.run g_X5_carrier_0_5 7 [some (.ref 16384), some (.int (nI (r))), some (.int (x))] [.int (nI (r)), .ref 16384] (hp o0 a0 t0 p0 (mo z sa ro te fr to un ga pi be bm en sta sv ln (nI (0)) hh) u0 l0) [] rfl trivial ?_
  refine AR.callV1 (16384) [.int (nI (r))] [] lk_5_92 dc_X5_carrier_7 rfl rfl (CT.ret (s_isCarrier _ (nI (r)) hZ.2.2.1.1) (wiV_t (by omega) (by omega))) (by first | rfl | (simp only [nI_add, pk_mul]; first | done | rfl)) rfl ?_
  refine AR.neN (tgt := 19) (a := 1) dc_X5_carrier_10 (by decide) (by first | rfl | (simp only [nI_add, pk_mul]; first | done | rfl)) (by omega) (fun c10_1 => ?_) (fun c10_1 => absurd c10_1 (by omega))
  refine AR.run g_X5_carrier_19_3 22 [some (.ref 16384), some (.int (nI (r))), some (.int (x))] [.int (nI (3)), .int (nI (0)), .int (x)] _ [] rfl trivial ?_
  refine AR.callS1 [.int (x), .int (nI (0)), .int (nI (3))] [] lk_5_44 dc_X5_carrier_22 (s_within _ x (nI (0)) (nI (3)) ) (by first | rfl | (simp only [nI_add, pk_mul]; first | done | rfl)) rfl ?_
  refine AR.top hx ?_
  refine AR.eqN (tgt := 37) (a := 0) dc_X5_carrier_25 (by decide) (by first | rfl | (simp only [nI_add, pk_mul]; first | done | rfl)) (by omega) (fun c25_2 => ?_) (fun c25_2 => absurd c25_2 (by omega))
  refine AR.run g_X5_carrier_37_2 39 [some (.ref 16384), some (.int (nI (r))), some (.int (x))] [.int (nI (2)), .ref 16384] _ [] rfl trivial ?_
  refine AR.callV1 (16384) [.int (nI (2))] [] lk_5_51 dc_X5_carrier_39 rfl rfl (s_fails _ (nI (2)) ) (by first | rfl | (simp only [nI_add, pk_mul]; first | done | rfl)) rfl ?_
  have e3_0 : F_5carrierB = (nI (0)) := by rw [F_5carrierB]
  have e3_1 : F_5carrierB_th = (nI (2)) := by rw [F_5carrierB_th]
  exact AR.retI dc_X5_carrier_42 rfl e3_0.symm (by rw [e3_1])
def F_5carrier (r : Nat) (w : Nat) (z : Nat → Int32) : Int32 := (z (111 + 4 * r + w))
def F_5carrier_th : Int32 := (nI (0))
theorem g_X5_carrier_28_3 : ab_oks M_X5_carrier [(28, .aload_n 0, 1, 0, 0, 0, .null), (29, .iload_n 1, 1, 1, 0, 0, .null), (30, .iload_n 2, 1, 2, 0, 0, .null)] = true := by decide +kernel
theorem dc_X5_carrier_31 : decode (AM.bytes M_X5_carrier) 31 = .ok (.invokevirtual 58, 3) := by decide +kernel
theorem g_X5_carrier_34_1 : ab_oks M_X5_carrier [(34, .goto 8, 3, 42, 0, 0, .null)] = true := by decide +kernel
set_option maxRecDepth 100000 in
set_option maxHeartbeats 4000000 in
theorem s_5carrier {E : AE} (d : Nat) (r : Nat) (w : Nat) {nv : Nat} {nc : Nat} {nr : Nat} {ne : Nat}  {o0 a0 t0 p0 u0 l0 : List AC} {z sa ro te fr to un ga pi be : Nat → Int32} {bm en sta sv ln th : Int32} {hh : Int64} (hZ : ZI z nv nc nr ne) (hr : r < nr) (hw : w < 4) : CT E M_X5_carrier (d + 2) [.ref 16384, .int (nI (r)), .int (nI (w))] (hp o0 a0 t0 p0 (mo z sa ro te fr to un ga pi be bm en sta sv ln th hh) u0 l0) (.inl (some (.int (F_5carrier r w z)))) (hp o0 a0 t0 p0 (mo z sa ro te fr to un ga pi be bm en sta sv ln F_5carrier_th hh) u0 l0) 0 0 := by
  obtain ⟨⟨hnv, h12⟩, ⟨hnc, h4⟩, ⟨hnr, h3⟩, ⟨hne, h60⟩, hLV⟩ := id hZ
  refine CT.of (L := [some (.ref 16384), some (.int (nI (r))), some (.int (nI (w)))]) rfl rfl ?_
  refine AR.run g_X5_carrier_0_5 7 [some (.ref 16384), some (.int (nI (r))), some (.int (nI (w)))] [.int (nI (r)), .ref 16384] (hp o0 a0 t0 p0 (mo z sa ro te fr to un ga pi be bm en sta sv ln (nI (0)) hh) u0 l0) [] rfl trivial ?_
  refine AR.callV1 (16384) [.int (nI (r))] [] lk_5_92 dc_X5_carrier_7 rfl rfl (CT.ret (s_isCarrier _ (nI (r)) hZ.2.2.1.1) (wiV_t (by omega) (by omega))) (by first | rfl | (simp only [nI_add, pk_mul]; first | done | rfl)) rfl ?_
  refine AR.neN (tgt := 19) (a := 1) dc_X5_carrier_10 (by decide) (by first | rfl | (simp only [nI_add, pk_mul]; first | done | rfl)) (by omega) (fun c10_1 => ?_) (fun c10_1 => absurd c10_1 (by omega))
  refine AR.run g_X5_carrier_19_3 22 [some (.ref 16384), some (.int (nI (r))), some (.int (nI (w)))] [.int (nI (3)), .int (nI (0)), .int (nI (w))] _ [] rfl trivial ?_
  refine AR.callS1 [.int (nI (w)), .int (nI (0)), .int (nI (3))] [] lk_5_44 dc_X5_carrier_22 (s_within _ (nI (w)) (nI (0)) (nI (3)) ) (by first | rfl | (simp only [nI_add, pk_mul]; first | done | rfl)) rfl ?_
  refine AR.top (wiN_t (by omega) (by omega) (by decide)) ?_
  refine AR.eqN (tgt := 37) (a := 1) dc_X5_carrier_25 (by decide) (by first | rfl | (simp only [nI_add, pk_mul]; first | done | rfl)) (by omega) (fun c25_2 => absurd c25_2 (by omega)) (fun c25_2 => ?_)
  refine AR.run g_X5_carrier_28_3 31 [some (.ref 16384), some (.int (nI (r))), some (.int (nI (w)))] [.int (nI (w)), .int (nI (r)), .ref 16384] _ [] rfl trivial ?_
  refine AR.callV1 (16384) [.int (nI (r)), .int (nI (w))] [] lk_5_58 dc_X5_carrier_31 rfl rfl (s_ofCarrier _ r w (by omega) (by omega)) (by first | rfl | (simp only [nI_add, pk_mul]; first | done | rfl)) rfl ?_
  refine AR.run g_X5_carrier_34_1 42 [some (.ref 16384), some (.int (nI (r))), some (.int (nI (w)))] [.int (z (111 + 4 * r + w))] _ [] rfl trivial ?_
  have e3_0 : F_5carrier r w z = (z (111 + 4 * r + w)) := by rw [F_5carrier]
  have e3_1 : F_5carrier_th = (nI (0)) := by rw [F_5carrier_th]
  exact AR.retI dc_X5_carrier_42 rfl e3_0.symm (by rw [e3_1])
def F_5logA : Int32 := (nI (0))
theorem F_5logA_01 : F_5logA  = nI 0 ∨ F_5logA  = nI 1 := by
  unfold F_5logA
  (repeat' split) <;> first | exact Or.inl rfl | exact Or.inr rfl | exact wi01 _ _ _
def F_5logA_th : Int32 := (nI (1))
theorem g_X5_log_0_8 : ab_oks M_X5_log [(0, .aload_n 0, 1, 0, 0, 0, .null), (1, .iconst 0, 1, 0, 0, 0, .int (nI (0))), (2, .putfield 40, 3, 5, 15, 951, .null), (5, .iload_n 1, 1, 1, 0, 0, .null), (6, .iconst 0, 1, 0, 0, 0, .int (nI (0))), (7, .aload_n 0, 1, 0, 0, 0, .null), (8, .getfield 7, 3, 5, 0, 936, .null), (11, .iconst 5, 1, 0, 0, 0, .int (nI (5)))] = true := by decide +kernel
theorem ok_X5_log_12 : ab_ok M_X5_log (12, .iaload, 1, 0, 0, 0, .null) = true := by decide +kernel
theorem g_X5_log_13_2 : ab_oks M_X5_log [(13, .iconst 1, 1, 0, 0, 0, .int (nI (1))), (14, .isub, 1, 0, 0, 0, .null)] = true := by decide +kernel
theorem dc_X5_log_15 : decode (AM.bytes M_X5_log) 15 = .ok (.invokestatic 44, 3) := by decide +kernel
theorem dc_X5_log_18 : decode (AM.bytes M_X5_log) 18 = .ok (.ifCond .ne 9, 3) := by decide +kernel
theorem g_X5_log_21_2 : ab_oks M_X5_log [(21, .aload_n 0, 1, 0, 0, 0, .null), (22, .iconst 1, 1, 0, 0, 0, .int (nI (1)))] = true := by decide +kernel
theorem dc_X5_log_23 : decode (AM.bytes M_X5_log) 23 = .ok (.invokevirtual 51, 3) := by decide +kernel
theorem dc_X5_log_26 : decode (AM.bytes M_X5_log) 26 = .ok (.ireturn, 1) := by decide +kernel
set_option maxRecDepth 100000 in
set_option maxHeartbeats 4000000 in
theorem s_5logA {E : AE} (d : Nat) (x : Int32) (y : Int32) {nv : Nat} {nc : Nat} {nr : Nat} {ne : Nat}  {o0 a0 t0 p0 u0 l0 : List AC} {z sa ro te fr to un ga pi be : Nat → Int32} {bm en sta sv ln th : Int32} {hh : Int64} (hZ : ZI z nv nc nr ne) (hbad : ¬ ∃ q9 : Nat, q9 < ne ∧ x = nI q9) : CT E M_X5_log (d + 1) [.ref 16384, .int (x), .int (y)] (hp o0 a0 t0 p0 (mo z sa ro te fr to un ga pi be bm en sta sv ln th hh) u0 l0) (.inl (some (.int (F_5logA)))) (hp o0 a0 t0 p0 (mo z sa ro te fr to un ga pi be bm en sta sv ln F_5logA_th hh) u0 l0) 0 0 := by
  obtain ⟨⟨hnv, h12⟩, ⟨hnc, h4⟩, ⟨hnr, h3⟩, ⟨hne, h60⟩, hLV⟩ := id hZ
  refine CT.of (L := [some (.ref 16384), some (.int (x)), some (.int (y))]) rfl rfl ?_
  refine AR.run g_X5_log_0_8 12 [some (.ref 16384), some (.int (x)), some (.int (y))] [.int (nI (5)), .ref 16385, .int (nI (0)), .int (x)] (hp o0 a0 t0 p0 (mo z sa ro te fr to un ga pi be bm en sta sv ln (nI (0)) hh) u0 l0) [] rfl trivial ?_
  refine AR.ald (n := 0) (e := 5) ok_X5_log_12 (by first | rfl | (simp only [nI_add, pk_mul]; first | done | rfl)) rfl (by omega) (by first | decide | omega) ?_
  refine AR.top hZ.2.2.2.1.1 ?_
  refine AR.run g_X5_log_13_2 15 [some (.ref 16384), some (.int (x)), some (.int (y))] [.int ((nI (ne)) - (nI (1))), .int (nI (0)), .int (x)] _ [] rfl trivial ?_
  refine AR.callS1 [.int (x), .int (nI (0)), .int ((nI (ne)) - (nI (1)))] [] lk_5_44 dc_X5_log_15 (s_within _ x (nI (0)) ((nI (ne)) - (nI (1))) ) (by first | rfl | (simp only [nI_add, pk_mul]; first | done | rfl)) rfl ?_
  refine AR.top (wiV_f (by omega) hbad) ?_
  refine AR.neN (tgt := 27) (a := 0) dc_X5_log_18 (by decide) (by first | rfl | (simp only [nI_add, pk_mul]; first | done | rfl)) (by omega) (fun c18_1 => absurd c18_1 (by omega)) (fun c18_1 => ?_)
  refine AR.run g_X5_log_21_2 23 [some (.ref 16384), some (.int (x)), some (.int (y))] [.int (nI (1)), .ref 16384] _ [] rfl trivial ?_
  refine AR.callV1 (16384) [.int (nI (1))] [] lk_5_51 dc_X5_log_23 rfl rfl (s_fails _ (nI (1)) ) (by first | rfl | (simp only [nI_add, pk_mul]; first | done | rfl)) rfl ?_
  have e2_0 : F_5logA = (nI (0)) := by rw [F_5logA]
  have e2_1 : F_5logA_th = (nI (1)) := by rw [F_5logA_th]
  exact AR.retI dc_X5_log_26 rfl e2_0.symm (by rw [e2_1])
def F_5logB : Int32 := (nI (0))
theorem F_5logB_01 : F_5logB  = nI 0 ∨ F_5logB  = nI 1 := by
  unfold F_5logB
  (repeat' split) <;> first | exact Or.inl rfl | exact Or.inr rfl | exact wi01 _ _ _
def F_5logB_th : Int32 := (nI (2))
theorem g_X5_log_27_3 : ab_oks M_X5_log [(27, .iload_n 2, 1, 2, 0, 0, .null), (28, .iconst 0, 1, 0, 0, 0, .int (nI (0))), (29, .iconst 4, 1, 0, 0, 0, .int (nI (4)))] = true := by decide +kernel
theorem dc_X5_log_30 : decode (AM.bytes M_X5_log) 30 = .ok (.invokestatic 44, 3) := by decide +kernel
theorem dc_X5_log_33 : decode (AM.bytes M_X5_log) 33 = .ok (.ifCond .eq 19, 3) := by decide +kernel
theorem g_X5_log_52_2 : ab_oks M_X5_log [(52, .aload_n 0, 1, 0, 0, 0, .null), (53, .iconst 2, 1, 0, 0, 0, .int (nI (2)))] = true := by decide +kernel
theorem dc_X5_log_54 : decode (AM.bytes M_X5_log) 54 = .ok (.invokevirtual 51, 3) := by decide +kernel
theorem dc_X5_log_57 : decode (AM.bytes M_X5_log) 57 = .ok (.ireturn, 1) := by decide +kernel
set_option maxRecDepth 100000 in
set_option maxHeartbeats 4000000 in
theorem s_5logB {E : AE} (d : Nat) (e : Nat) (x : Int32) {nv : Nat} {nc : Nat} {nr : Nat} {ne : Nat}  {o0 a0 t0 p0 u0 l0 : List AC} {z sa ro te fr to un ga pi be : Nat → Int32} {bm en sta sv ln th : Int32} {hh : Int64} (hZ : ZI z nv nc nr ne) (he : e < ne) (hx : wi x (nI 0) (nI 4) = nI 0) : CT E M_X5_log (d + 1) [.ref 16384, .int (nI (e)), .int (x)] (hp o0 a0 t0 p0 (mo z sa ro te fr to un ga pi be bm en sta sv ln th hh) u0 l0) (.inl (some (.int (F_5logB)))) (hp o0 a0 t0 p0 (mo z sa ro te fr to un ga pi be bm en sta sv ln F_5logB_th hh) u0 l0) 0 0 := by
  obtain ⟨⟨hnv, h12⟩, ⟨hnc, h4⟩, ⟨hnr, h3⟩, ⟨hne, h60⟩, hLV⟩ := id hZ
  refine CT.of (L := [some (.ref 16384), some (.int (nI (e))), some (.int (x))]) rfl rfl ?_
  refine AR.run g_X5_log_0_8 12 [some (.ref 16384), some (.int (nI (e))), some (.int (x))] [.int (nI (5)), .ref 16385, .int (nI (0)), .int (nI (e))] (hp o0 a0 t0 p0 (mo z sa ro te fr to un ga pi be bm en sta sv ln (nI (0)) hh) u0 l0) [] rfl trivial ?_
  refine AR.ald (n := 0) (e := 5) ok_X5_log_12 (by first | rfl | (simp only [nI_add, pk_mul]; first | done | rfl)) rfl (by omega) (by first | decide | omega) ?_
  refine AR.top hZ.2.2.2.1.1 ?_
  refine AR.run g_X5_log_13_2 15 [some (.ref 16384), some (.int (nI (e))), some (.int (x))] [.int ((nI (ne)) - (nI (1))), .int (nI (0)), .int (nI (e))] _ [] rfl trivial ?_
  refine AR.callS1 [.int (nI (e)), .int (nI (0)), .int ((nI (ne)) - (nI (1)))] [] lk_5_44 dc_X5_log_15 (s_within _ (nI (e)) (nI (0)) ((nI (ne)) - (nI (1))) ) (by first | rfl | (simp only [nI_add, pk_mul]; first | done | rfl)) rfl ?_
  refine AR.top (wiV_t (by omega) (by omega)) ?_
  refine AR.neN (tgt := 27) (a := 1) dc_X5_log_18 (by decide) (by first | rfl | (simp only [nI_add, pk_mul]; first | done | rfl)) (by omega) (fun c18_1 => ?_) (fun c18_1 => absurd c18_1 (by omega))
  refine AR.run g_X5_log_27_3 30 [some (.ref 16384), some (.int (nI (e))), some (.int (x))] [.int (nI (4)), .int (nI (0)), .int (x)] _ [] rfl trivial ?_
  refine AR.callS1 [.int (x), .int (nI (0)), .int (nI (4))] [] lk_5_44 dc_X5_log_30 (s_within _ x (nI (0)) (nI (4)) ) (by first | rfl | (simp only [nI_add, pk_mul]; first | done | rfl)) rfl ?_
  refine AR.top hx ?_
  refine AR.eqN (tgt := 52) (a := 0) dc_X5_log_33 (by decide) (by first | rfl | (simp only [nI_add, pk_mul]; first | done | rfl)) (by omega) (fun c33_2 => ?_) (fun c33_2 => absurd c33_2 (by omega))
  refine AR.run g_X5_log_52_2 54 [some (.ref 16384), some (.int (nI (e))), some (.int (x))] [.int (nI (2)), .ref 16384] _ [] rfl trivial ?_
  refine AR.callV1 (16384) [.int (nI (2))] [] lk_5_51 dc_X5_log_54 rfl rfl (s_fails _ (nI (2)) ) (by first | rfl | (simp only [nI_add, pk_mul]; first | done | rfl)) rfl ?_
  have e3_0 : F_5logB = (nI (0)) := by rw [F_5logB]
  have e3_1 : F_5logB_th = (nI (2)) := by rw [F_5logB_th]
  exact AR.retI dc_X5_log_57 rfl e3_0.symm (by rw [e3_1])
def F_5log (e : Nat) (w : Nat) (z : Nat → Int32) : Int32 := (z ((123 + (5 * e)) + w))
def F_5log_th : Int32 := (nI (0))
theorem g_X5_log_36_9 : ab_oks M_X5_log [(36, .aload_n 0, 1, 0, 0, 0, .null), (37, .getfield 7, 3, 5, 0, 936, .null), (40, .bipush 123, 2, 0, 0, 0, .int (nI (123))), (42, .iconst 5, 1, 0, 0, 0, .int (nI (5))), (43, .iload_n 1, 1, 1, 0, 0, .null), (44, .imul, 1, 0, 0, 0, .null), (45, .iadd, 1, 0, 0, 0, .null), (46, .iload_n 2, 1, 2, 0, 0, .null), (47, .iadd, 1, 0, 0, 0, .null)] = true := by decide +kernel
theorem ok_X5_log_48 : ab_ok M_X5_log (48, .iaload, 1, 0, 0, 0, .null) = true := by decide +kernel
theorem g_X5_log_49_1 : ab_oks M_X5_log [(49, .goto 8, 3, 57, 0, 0, .null)] = true := by decide +kernel
set_option maxRecDepth 100000 in
set_option maxHeartbeats 4000000 in
theorem s_5log {E : AE} (d : Nat) (e : Nat) (w : Nat) {nv : Nat} {nc : Nat} {nr : Nat} {ne : Nat}  {o0 a0 t0 p0 u0 l0 : List AC} {z sa ro te fr to un ga pi be : Nat → Int32} {bm en sta sv ln th : Int32} {hh : Int64} (hZ : ZI z nv nc nr ne) (he : e < ne) (hw : w < 5) : CT E M_X5_log (d + 1) [.ref 16384, .int (nI (e)), .int (nI (w))] (hp o0 a0 t0 p0 (mo z sa ro te fr to un ga pi be bm en sta sv ln th hh) u0 l0) (.inl (some (.int (F_5log e w z)))) (hp o0 a0 t0 p0 (mo z sa ro te fr to un ga pi be bm en sta sv ln F_5log_th hh) u0 l0) 0 0 := by
  obtain ⟨⟨hnv, h12⟩, ⟨hnc, h4⟩, ⟨hnr, h3⟩, ⟨hne, h60⟩, hLV⟩ := id hZ
  refine CT.of (L := [some (.ref 16384), some (.int (nI (e))), some (.int (nI (w)))]) rfl rfl ?_
  refine AR.run g_X5_log_0_8 12 [some (.ref 16384), some (.int (nI (e))), some (.int (nI (w)))] [.int (nI (5)), .ref 16385, .int (nI (0)), .int (nI (e))] (hp o0 a0 t0 p0 (mo z sa ro te fr to un ga pi be bm en sta sv ln (nI (0)) hh) u0 l0) [] rfl trivial ?_
  refine AR.ald (n := 0) (e := 5) ok_X5_log_12 (by first | rfl | (simp only [nI_add, pk_mul]; first | done | rfl)) rfl (by omega) (by first | decide | omega) ?_
  refine AR.top hZ.2.2.2.1.1 ?_
  refine AR.run g_X5_log_13_2 15 [some (.ref 16384), some (.int (nI (e))), some (.int (nI (w)))] [.int ((nI (ne)) - (nI (1))), .int (nI (0)), .int (nI (e))] _ [] rfl trivial ?_
  refine AR.callS1 [.int (nI (e)), .int (nI (0)), .int ((nI (ne)) - (nI (1)))] [] lk_5_44 dc_X5_log_15 (s_within _ (nI (e)) (nI (0)) ((nI (ne)) - (nI (1))) ) (by first | rfl | (simp only [nI_add, pk_mul]; first | done | rfl)) rfl ?_
  refine AR.top (wiV_t (by omega) (by omega)) ?_
  refine AR.neN (tgt := 27) (a := 1) dc_X5_log_18 (by decide) (by first | rfl | (simp only [nI_add, pk_mul]; first | done | rfl)) (by omega) (fun c18_1 => ?_) (fun c18_1 => absurd c18_1 (by omega))
  refine AR.run g_X5_log_27_3 30 [some (.ref 16384), some (.int (nI (e))), some (.int (nI (w)))] [.int (nI (4)), .int (nI (0)), .int (nI (w))] _ [] rfl trivial ?_
  refine AR.callS1 [.int (nI (w)), .int (nI (0)), .int (nI (4))] [] lk_5_44 dc_X5_log_30 (s_within _ (nI (w)) (nI (0)) (nI (4)) ) (by first | rfl | (simp only [nI_add, pk_mul]; first | done | rfl)) rfl ?_
  refine AR.top (wiN_t (by omega) (by omega) (by decide)) ?_
  refine AR.eqN (tgt := 52) (a := 1) dc_X5_log_33 (by decide) (by first | rfl | (simp only [nI_add, pk_mul]; first | done | rfl)) (by omega) (fun c33_2 => absurd c33_2 (by omega)) (fun c33_2 => ?_)
  refine AR.run g_X5_log_36_9 48 [some (.ref 16384), some (.int (nI (e))), some (.int (nI (w)))] [.int (((nI (123)) + ((nI (5)) * (nI (e)))) + (nI (w))), .ref 16385] _ [] rfl trivial ?_
  refine AR.ald (n := 0) (e := ((123 + (5 * e)) + w)) ok_X5_log_48 (by first | rfl | (simp only [nI_add, pk_mul]; first | done | rfl)) rfl (by omega) (by first | decide | omega) ?_
  refine AR.run g_X5_log_49_1 57 [some (.ref 16384), some (.int (nI (e))), some (.int (nI (w)))] [.int (z ((123 + (5 * e)) + w))] _ [] rfl trivial ?_
  have e3_0 : F_5log e w z = (z ((123 + (5 * e)) + w)) := by rw [F_5log]
  have e3_1 : F_5log_th = (nI (0)) := by rw [F_5log_th]
  exact AR.retI dc_X5_log_57 rfl e3_0.symm (by rw [e3_1])
def F_5whereAtA : Int32 := (nI (0))
theorem F_5whereAtA_01 : F_5whereAtA  = nI 0 ∨ F_5whereAtA  = nI 1 := by
  unfold F_5whereAtA
  (repeat' split) <;> first | exact Or.inl rfl | exact Or.inr rfl | exact wi01 _ _ _
def F_5whereAtA_th : Int32 := (nI (1))
theorem g_X5_whereAt_0_5 : ab_oks M_X5_whereAt [(0, .aload_n 0, 1, 0, 0, 0, .null), (1, .iconst 0, 1, 0, 0, 0, .int (nI (0))), (2, .putfield 40, 3, 5, 15, 951, .null), (5, .aload_n 0, 1, 0, 0, 0, .null), (6, .iload_n 1, 1, 1, 0, 0, .null)] = true := by decide +kernel
theorem dc_X5_whereAt_7 : decode (AM.bytes M_X5_whereAt) 7 = .ok (.invokevirtual 85, 3) := by decide +kernel
theorem dc_X5_whereAt_10 : decode (AM.bytes M_X5_whereAt) 10 = .ok (.ifCond .ne 9, 3) := by decide +kernel
theorem g_X5_whereAt_13_2 : ab_oks M_X5_whereAt [(13, .aload_n 0, 1, 0, 0, 0, .null), (14, .iconst 1, 1, 0, 0, 0, .int (nI (1)))] = true := by decide +kernel
theorem dc_X5_whereAt_15 : decode (AM.bytes M_X5_whereAt) 15 = .ok (.invokevirtual 51, 3) := by decide +kernel
theorem dc_X5_whereAt_18 : decode (AM.bytes M_X5_whereAt) 18 = .ok (.ireturn, 1) := by decide +kernel
set_option maxRecDepth 100000 in
set_option maxHeartbeats 4000000 in
theorem s_5whereAtA {E : AE} (d : Nat) (x : Int32) (y : Int32) {nv : Nat} {nc : Nat} {nr : Nat} {ne : Nat}  {o0 a0 t0 p0 u0 l0 : List AC} {z sa ro te fr to un ga pi be : Nat → Int32} {bm en sta sv ln th : Int32} {hh : Int64} (hZ : ZI z nv nc nr ne) (hbad : ¬ ∃ q9 : Nat, q9 < nv ∧ x = nI q9) : CT E M_X5_whereAt (d + 2) [.ref 16384, .int (x), .int (y)] (hp o0 a0 t0 p0 (mo z sa ro te fr to un ga pi be bm en sta sv ln th hh) u0 l0) (.inl (some (.int (F_5whereAtA)))) (hp o0 a0 t0 p0 (mo z sa ro te fr to un ga pi be bm en sta sv ln F_5whereAtA_th hh) u0 l0) 0 0 := by
  obtain ⟨⟨hnv, h12⟩, ⟨hnc, h4⟩, ⟨hnr, h3⟩, ⟨hne, h60⟩, hLV⟩ := id hZ
  refine CT.of (L := [some (.ref 16384), some (.int (x)), some (.int (y))]) rfl rfl ?_
  refine AR.run g_X5_whereAt_0_5 7 [some (.ref 16384), some (.int (x)), some (.int (y))] [.int (x), .ref 16384] (hp o0 a0 t0 p0 (mo z sa ro te fr to un ga pi be bm en sta sv ln (nI (0)) hh) u0 l0) [] rfl trivial ?_
  refine AR.callV1 (16384) [.int (x)] [] lk_5_85 dc_X5_whereAt_7 rfl rfl (CT.ret (s_isVolume _ x hZ.1.1) (wiV_f (by omega) (by assumption))) (by first | rfl | (simp only [nI_add, pk_mul]; first | done | rfl)) rfl ?_
  refine AR.neN (tgt := 19) (a := 0) dc_X5_whereAt_10 (by decide) (by first | rfl | (simp only [nI_add, pk_mul]; first | done | rfl)) (by omega) (fun c10_1 => absurd c10_1 (by omega)) (fun c10_1 => ?_)
  refine AR.run g_X5_whereAt_13_2 15 [some (.ref 16384), some (.int (x)), some (.int (y))] [.int (nI (1)), .ref 16384] _ [] rfl trivial ?_
  refine AR.callV1 (16384) [.int (nI (1))] [] lk_5_51 dc_X5_whereAt_15 rfl rfl (s_fails _ (nI (1)) ) (by first | rfl | (simp only [nI_add, pk_mul]; first | done | rfl)) rfl ?_
  have e2_0 : F_5whereAtA = (nI (0)) := by rw [F_5whereAtA]
  have e2_1 : F_5whereAtA_th = (nI (1)) := by rw [F_5whereAtA_th]
  exact AR.retI dc_X5_whereAt_18 rfl e2_0.symm (by rw [e2_1])
def F_5whereAt (v : Nat) (m : Int32) (ne : Nat) (z : Nat → Int32) : Int32 := if (wi m (nI (0)) (z 3)) = 0 then (nI (0)) else (L_5whereNow_5 (nI (v)) m z ne)
def F_5whereAt_th (m : Int32) (z : Nat → Int32) : Int32 := if (wi m (nI (0)) (z 3)) = 0 then (nI (2)) else (nI (0))
theorem g_X5_whereAt_19_5 : ab_oks M_X5_whereAt [(19, .iload_n 2, 1, 2, 0, 0, .null), (20, .iconst 0, 1, 0, 0, 0, .int (nI (0))), (21, .aload_n 0, 1, 0, 0, 0, .null), (22, .getfield 7, 3, 5, 0, 936, .null), (25, .iconst 3, 1, 0, 0, 0, .int (nI (3)))] = true := by decide +kernel
theorem ok_X5_whereAt_26 : ab_ok M_X5_whereAt (26, .iaload, 1, 0, 0, 0, .null) = true := by decide +kernel
theorem dc_X5_whereAt_27 : decode (AM.bytes M_X5_whereAt) 27 = .ok (.invokestatic 44, 3) := by decide +kernel
theorem dc_X5_whereAt_30 : decode (AM.bytes M_X5_whereAt) 30 = .ok (.ifCond .eq 12, 3) := by decide +kernel
theorem g_X5_whereAt_42_2 : ab_oks M_X5_whereAt [(42, .aload_n 0, 1, 0, 0, 0, .null), (43, .iconst 2, 1, 0, 0, 0, .int (nI (2)))] = true := by decide +kernel
theorem dc_X5_whereAt_44 : decode (AM.bytes M_X5_whereAt) 44 = .ok (.invokevirtual 51, 3) := by decide +kernel
theorem dc_X5_whereAt_47 : decode (AM.bytes M_X5_whereAt) 47 = .ok (.ireturn, 1) := by decide +kernel
theorem g_X5_whereAt_33_3 : ab_oks M_X5_whereAt [(33, .aload_n 0, 1, 0, 0, 0, .null), (34, .iload_n 1, 1, 1, 0, 0, .null), (35, .iload_n 2, 1, 2, 0, 0, .null)] = true := by decide +kernel
theorem dc_X5_whereAt_36 : decode (AM.bytes M_X5_whereAt) 36 = .ok (.invokevirtual 170, 3) := by decide +kernel
theorem g_X5_whereAt_39_1 : ab_oks M_X5_whereAt [(39, .goto 8, 3, 47, 0, 0, .null)] = true := by decide +kernel
set_option maxRecDepth 100000 in
set_option maxHeartbeats 4000000 in
theorem s_5whereAt {E : AE} (d : Nat) (v : Nat) (m : Int32) {nv : Nat} {nc : Nat} {nr : Nat} {ne : Nat}  {o0 a0 t0 p0 u0 l0 : List AC} {z sa ro te fr to un ga pi be : Nat → Int32} {bm en sta sv ln th : Int32} {hh : Int64} (hZ : ZI z nv nc nr ne) (hv : v < nv) : CT E M_X5_whereAt (d + 2) [.ref 16384, .int (nI (v)), .int (m)] (hp o0 a0 t0 p0 (mo z sa ro te fr to un ga pi be bm en sta sv ln th hh) u0 l0) (.inl (some (.int (F_5whereAt v m ne z)))) (hp o0 a0 t0 p0 (mo z sa ro te fr to un ga pi be bm en sta sv ln (F_5whereAt_th m z) hh) u0 l0) 0 0 := by
  obtain ⟨⟨hnv, h12⟩, ⟨hnc, h4⟩, ⟨hnr, h3⟩, ⟨hne, h60⟩, hLV⟩ := id hZ
  refine CT.of (L := [some (.ref 16384), some (.int (nI (v))), some (.int (m))]) rfl rfl ?_
  refine AR.run g_X5_whereAt_0_5 7 [some (.ref 16384), some (.int (nI (v))), some (.int (m))] [.int (nI (v)), .ref 16384] (hp o0 a0 t0 p0 (mo z sa ro te fr to un ga pi be bm en sta sv ln (nI (0)) hh) u0 l0) [] rfl trivial ?_
  refine AR.callV1 (16384) [.int (nI (v))] [] lk_5_85 dc_X5_whereAt_7 rfl rfl (CT.ret (s_isVolume _ (nI (v)) hZ.1.1) (wiV_t (by omega) (by omega))) (by first | rfl | (simp only [nI_add, pk_mul]; first | done | rfl)) rfl ?_
  refine AR.neN (tgt := 19) (a := 1) dc_X5_whereAt_10 (by decide) (by first | rfl | (simp only [nI_add, pk_mul]; first | done | rfl)) (by omega) (fun c10_1 => ?_) (fun c10_1 => absurd c10_1 (by omega))
  refine AR.run g_X5_whereAt_19_5 26 [some (.ref 16384), some (.int (nI (v))), some (.int (m))] [.int (nI (3)), .ref 16385, .int (nI (0)), .int (m)] _ [] rfl trivial ?_
  refine AR.ald (n := 0) (e := 3) ok_X5_whereAt_26 (by first | rfl | (simp only [nI_add, pk_mul]; first | done | rfl)) rfl (by omega) (by first | decide | omega) ?_
  refine AR.callS1 [.int (m), .int (nI (0)), .int (z 3)] [] lk_5_44 dc_X5_whereAt_27 (s_within _ m (nI (0)) (z 3) ) (by first | rfl | (simp only [nI_add, pk_mul]; first | done | rfl)) rfl ?_
  refine AR.eq (tgt := 42) dc_X5_whereAt_30 (by decide) (fun c30_2 => ?_) (fun c30_2 => ?_)
  · refine AR.run g_X5_whereAt_42_2 44 [some (.ref 16384), some (.int (nI (v))), some (.int (m))] [.int (nI (2)), .ref 16384] _ [] rfl trivial ?_
    refine AR.callV1 (16384) [.int (nI (2))] [] lk_5_51 dc_X5_whereAt_44 rfl rfl (s_fails _ (nI (2)) ) (by first | rfl | (simp only [nI_add, pk_mul]; first | done | rfl)) rfl ?_
    have e3_0 : F_5whereAt v m ne z = (nI (0)) := by rw [F_5whereAt, if_pos c30_2]
    have e3_1 : F_5whereAt_th m z = (nI (2)) := by rw [F_5whereAt_th, if_pos c30_2]
    exact AR.retI dc_X5_whereAt_47 rfl e3_0.symm (by rw [e3_1])
  · refine AR.run g_X5_whereAt_33_3 36 [some (.ref 16384), some (.int (nI (v))), some (.int (m))] [.int (m), .int (nI (v)), .ref 16384] _ [] rfl trivial ?_
    refine AR.callV1 (16384) [.int (nI (v)), .int (m)] [] lk_5_170 dc_X5_whereAt_36 rfl rfl (s_5whereNow _ (nI (v)) m (by assumption)) (by first | rfl | (simp only [nI_add, pk_mul]; first | done | rfl)) rfl ?_
    refine AR.run g_X5_whereAt_39_1 47 [some (.ref 16384), some (.int (nI (v))), some (.int (m))] [.int (L_5whereNow_5 (nI (v)) m z ne)] _ [] rfl trivial ?_
    have e4_0 : F_5whereAt v m ne z = (L_5whereNow_5 (nI (v)) m z ne) := by rw [F_5whereAt, if_neg c30_2]
    have e4_1 : F_5whereAt_th m z = (nI (0)) := by rw [F_5whereAt_th, if_neg c30_2]
    exact AR.retI dc_X5_whereAt_47 rfl e4_0.symm (by rw [e4_1])
def F_5countA : Int32 := (nI (0))
theorem F_5countA_01 : F_5countA  = nI 0 ∨ F_5countA  = nI 1 := by
  unfold F_5countA
  (repeat' split) <;> first | exact Or.inl rfl | exact Or.inr rfl | exact wi01 _ _ _
def F_5countA_th : Int32 := (nI (1))
theorem g_X5_count_0_6 : ab_oks M_X5_count [(0, .aload_n 0, 1, 0, 0, 0, .null), (1, .iconst 0, 1, 0, 0, 0, .int (nI (0))), (2, .putfield 40, 3, 5, 15, 951, .null), (5, .iload_n 1, 1, 1, 0, 0, .null), (6, .iconst 0, 1, 0, 0, 0, .int (nI (0))), (7, .bipush 13, 2, 0, 0, 0, .int (nI (13)))] = true := by decide +kernel
theorem dc_X5_count_9 : decode (AM.bytes M_X5_count) 9 = .ok (.invokestatic 44, 3) := by decide +kernel
theorem dc_X5_count_12 : decode (AM.bytes M_X5_count) 12 = .ok (.ifCond .eq 11, 3) := by decide +kernel
theorem g_X5_count_23_2 : ab_oks M_X5_count [(23, .aload_n 0, 1, 0, 0, 0, .null), (24, .iconst 1, 1, 0, 0, 0, .int (nI (1)))] = true := by decide +kernel
theorem dc_X5_count_25 : decode (AM.bytes M_X5_count) 25 = .ok (.invokevirtual 51, 3) := by decide +kernel
theorem dc_X5_count_28 : decode (AM.bytes M_X5_count) 28 = .ok (.ireturn, 1) := by decide +kernel
set_option maxRecDepth 100000 in
set_option maxHeartbeats 4000000 in
theorem s_5countA {E : AE} (d : Nat) (x : Int32)  {o0 a0 t0 p0 u0 l0 : List AC} {z sa ro te fr to un ga pi be : Nat → Int32} {bm en sta sv ln th : Int32} {hh : Int64} (hx : wi x (nI 0) (nI 13) = nI 0) : CT E M_X5_count (d + 6) [.ref 16384, .int (x)] (hp o0 a0 t0 p0 (mo z sa ro te fr to un ga pi be bm en sta sv ln th hh) u0 l0) (.inl (some (.int (F_5countA)))) (hp o0 a0 t0 p0 (mo z sa ro te fr to un ga pi be bm en sta sv ln F_5countA_th hh) u0 l0) 0 0 := by
  refine CT.of (L := [some (.ref 16384), some (.int (x))]) rfl rfl ?_
  refine AR.run g_X5_count_0_6 9 [some (.ref 16384), some (.int (x))] [.int (nI (13)), .int (nI (0)), .int (x)] (hp o0 a0 t0 p0 (mo z sa ro te fr to un ga pi be bm en sta sv ln (nI (0)) hh) u0 l0) [] rfl trivial ?_
  refine AR.callS1 [.int (x), .int (nI (0)), .int (nI (13))] [] lk_5_44 dc_X5_count_9 (s_within _ x (nI (0)) (nI (13)) ) (by first | rfl | (simp only [nI_add, pk_mul]; first | done | rfl)) rfl ?_
  refine AR.top hx ?_
  refine AR.eqN (tgt := 23) (a := 0) dc_X5_count_12 (by decide) (by first | rfl | (simp only [nI_add, pk_mul]; first | done | rfl)) (by omega) (fun c12_1 => ?_) (fun c12_1 => absurd c12_1 (by omega))
  refine AR.run g_X5_count_23_2 25 [some (.ref 16384), some (.int (x))] [.int (nI (1)), .ref 16384] _ [] rfl trivial ?_
  refine AR.callV1 (16384) [.int (nI (1))] [] lk_5_51 dc_X5_count_25 rfl rfl (s_fails _ (nI (1)) ) (by first | rfl | (simp only [nI_add, pk_mul]; first | done | rfl)) rfl ?_
  have e2_0 : F_5countA = (nI (0)) := by rw [F_5countA]
  have e2_1 : F_5countA_th = (nI (1)) := by rw [F_5countA_th]
  exact AR.retI dc_X5_count_28 rfl e2_0.symm (by rw [e2_1])
def F_5count (w : Nat) (nv : Nat) (nc : Nat) (z : Nat → Int32) (sv : Int32) : Int32 := (F_5counted w nv nc z sv)
def F_5count_th : Int32 := (nI (0))
theorem g_X5_count_15_2 : ab_oks M_X5_count [(15, .aload_n 0, 1, 0, 0, 0, .null), (16, .iload_n 1, 1, 1, 0, 0, .null)] = true := by decide +kernel
theorem dc_X5_count_17 : decode (AM.bytes M_X5_count) 17 = .ok (.invokevirtual 179, 3) := by decide +kernel
theorem g_X5_count_20_1 : ab_oks M_X5_count [(20, .goto 8, 3, 28, 0, 0, .null)] = true := by decide +kernel
set_option maxRecDepth 100000 in
set_option maxHeartbeats 4000000 in
theorem s_5count {E : AE} (d : Nat) (w : Nat) {nv : Nat} {nc : Nat} {nr : Nat} {ne : Nat}  {o0 a0 t0 p0 u0 l0 : List AC} {z sa ro te fr to un ga pi be : Nat → Int32} {bm en sta sv ln th : Int32} {hh : Int64} (hZ : ZI z nv nc nr ne) (hw : w < 14) : CT E M_X5_count (d + 6) [.ref 16384, .int (nI (w))] (hp o0 a0 t0 p0 (mo z sa ro te fr to un ga pi be bm en sta sv ln th hh) u0 l0) (.inl (some (.int (F_5count w nv nc z sv)))) (hp o0 a0 t0 p0 (mo z sa ro te fr to un ga pi be bm en sta sv ln F_5count_th hh) u0 l0) 0 0 := by
  obtain ⟨⟨hnv, h12⟩, ⟨hnc, h4⟩, ⟨hnr, h3⟩, ⟨hne, h60⟩, hLV⟩ := id hZ
  refine CT.of (L := [some (.ref 16384), some (.int (nI (w)))]) rfl rfl ?_
  refine AR.run g_X5_count_0_6 9 [some (.ref 16384), some (.int (nI (w)))] [.int (nI (13)), .int (nI (0)), .int (nI (w))] (hp o0 a0 t0 p0 (mo z sa ro te fr to un ga pi be bm en sta sv ln (nI (0)) hh) u0 l0) [] rfl trivial ?_
  refine AR.callS1 [.int (nI (w)), .int (nI (0)), .int (nI (13))] [] lk_5_44 dc_X5_count_9 (s_within _ (nI (w)) (nI (0)) (nI (13)) ) (by first | rfl | (simp only [nI_add, pk_mul]; first | done | rfl)) rfl ?_
  refine AR.top (wiN_t (by omega) (by omega) (by decide)) ?_
  refine AR.eqN (tgt := 23) (a := 1) dc_X5_count_12 (by decide) (by first | rfl | (simp only [nI_add, pk_mul]; first | done | rfl)) (by omega) (fun c12_1 => absurd c12_1 (by omega)) (fun c12_1 => ?_)
  refine AR.run g_X5_count_15_2 17 [some (.ref 16384), some (.int (nI (w)))] [.int (nI (w)), .ref 16384] _ [] rfl trivial ?_
  refine AR.callV1 (16384) [.int (nI (w))] [] lk_5_179 dc_X5_count_17 rfl rfl (s_5counted _ w (by assumption) (by omega)) (by first | rfl | (simp only [nI_add, pk_mul]; first | done | rfl)) rfl ?_
  refine AR.run g_X5_count_20_1 28 [some (.ref 16384), some (.int (nI (w)))] [.int (F_5counted w nv nc z sv)] _ [] rfl trivial ?_
  have e2_0 : F_5count w nv nc z sv = (F_5counted w nv nc z sv) := by rw [F_5count]
  have e2_1 : F_5count_th = (nI (0)) := by rw [F_5count_th]
  exact AR.retI dc_X5_count_28 rfl e2_0.symm (by rw [e2_1])
def F_5settingA : Int32 := (nI (0))
theorem F_5settingA_01 : F_5settingA  = nI 0 ∨ F_5settingA  = nI 1 := by
  unfold F_5settingA
  (repeat' split) <;> first | exact Or.inl rfl | exact Or.inr rfl | exact wi01 _ _ _
def F_5settingA_th : Int32 := (nI (1))
theorem g_X5_setting_0_6 : ab_oks M_X5_setting [(0, .aload_n 0, 1, 0, 0, 0, .null), (1, .iconst 0, 1, 0, 0, 0, .int (nI (0))), (2, .putfield 40, 3, 5, 15, 951, .null), (5, .iload_n 1, 1, 1, 0, 0, .null), (6, .iconst 0, 1, 0, 0, 0, .int (nI (0))), (7, .iconst 3, 1, 0, 0, 0, .int (nI (3)))] = true := by decide +kernel
theorem dc_X5_setting_8 : decode (AM.bytes M_X5_setting) 8 = .ok (.invokestatic 44, 3) := by decide +kernel
theorem dc_X5_setting_11 : decode (AM.bytes M_X5_setting) 11 = .ok (.ifCond .eq 15, 3) := by decide +kernel
theorem g_X5_setting_26_2 : ab_oks M_X5_setting [(26, .aload_n 0, 1, 0, 0, 0, .null), (27, .iconst 1, 1, 0, 0, 0, .int (nI (1)))] = true := by decide +kernel
theorem dc_X5_setting_28 : decode (AM.bytes M_X5_setting) 28 = .ok (.invokevirtual 51, 3) := by decide +kernel
theorem dc_X5_setting_31 : decode (AM.bytes M_X5_setting) 31 = .ok (.ireturn, 1) := by decide +kernel
set_option maxRecDepth 100000 in
set_option maxHeartbeats 4000000 in
theorem s_5settingA {E : AE} (d : Nat) (x : Int32)  {o0 a0 t0 p0 u0 l0 : List AC} {z sa ro te fr to un ga pi be : Nat → Int32} {bm en sta sv ln th : Int32} {hh : Int64} (hx : wi x (nI 0) (nI 3) = nI 0) : CT E M_X5_setting (d + 1) [.ref 16384, .int (x)] (hp o0 a0 t0 p0 (mo z sa ro te fr to un ga pi be bm en sta sv ln th hh) u0 l0) (.inl (some (.int (F_5settingA)))) (hp o0 a0 t0 p0 (mo z sa ro te fr to un ga pi be bm en sta sv ln F_5settingA_th hh) u0 l0) 0 0 := by
  refine CT.of (L := [some (.ref 16384), some (.int (x))]) rfl rfl ?_
  refine AR.run g_X5_setting_0_6 8 [some (.ref 16384), some (.int (x))] [.int (nI (3)), .int (nI (0)), .int (x)] (hp o0 a0 t0 p0 (mo z sa ro te fr to un ga pi be bm en sta sv ln (nI (0)) hh) u0 l0) [] rfl trivial ?_
  refine AR.callS1 [.int (x), .int (nI (0)), .int (nI (3))] [] lk_5_44 dc_X5_setting_8 (s_within _ x (nI (0)) (nI (3)) ) (by first | rfl | (simp only [nI_add, pk_mul]; first | done | rfl)) rfl ?_
  refine AR.top hx ?_
  refine AR.eqN (tgt := 26) (a := 0) dc_X5_setting_11 (by decide) (by first | rfl | (simp only [nI_add, pk_mul]; first | done | rfl)) (by omega) (fun c11_1 => ?_) (fun c11_1 => absurd c11_1 (by omega))
  refine AR.run g_X5_setting_26_2 28 [some (.ref 16384), some (.int (x))] [.int (nI (1)), .ref 16384] _ [] rfl trivial ?_
  refine AR.callV1 (16384) [.int (nI (1))] [] lk_5_51 dc_X5_setting_28 rfl rfl (s_fails _ (nI (1)) ) (by first | rfl | (simp only [nI_add, pk_mul]; first | done | rfl)) rfl ?_
  have e2_0 : F_5settingA = (nI (0)) := by rw [F_5settingA]
  have e2_1 : F_5settingA_th = (nI (1)) := by rw [F_5settingA_th]
  exact AR.retI dc_X5_setting_31 rfl e2_0.symm (by rw [e2_1])
def F_5setting (k : Nat) (z : Nat → Int32) : Int32 := (z (7 + k))
def F_5setting_th : Int32 := (nI (0))
theorem g_X5_setting_14_5 : ab_oks M_X5_setting [(14, .aload_n 0, 1, 0, 0, 0, .null), (15, .getfield 7, 3, 5, 0, 936, .null), (18, .bipush 7, 2, 0, 0, 0, .int (nI (7))), (20, .iload_n 1, 1, 1, 0, 0, .null), (21, .iadd, 1, 0, 0, 0, .null)] = true := by decide +kernel
theorem ok_X5_setting_22 : ab_ok M_X5_setting (22, .iaload, 1, 0, 0, 0, .null) = true := by decide +kernel
theorem g_X5_setting_23_1 : ab_oks M_X5_setting [(23, .goto 8, 3, 31, 0, 0, .null)] = true := by decide +kernel
set_option maxRecDepth 100000 in
set_option maxHeartbeats 4000000 in
theorem s_5setting {E : AE} (d : Nat) (k : Nat)  {o0 a0 t0 p0 u0 l0 : List AC} {z sa ro te fr to un ga pi be : Nat → Int32} {bm en sta sv ln th : Int32} {hh : Int64} (hk : k < 4) : CT E M_X5_setting (d + 1) [.ref 16384, .int (nI (k))] (hp o0 a0 t0 p0 (mo z sa ro te fr to un ga pi be bm en sta sv ln th hh) u0 l0) (.inl (some (.int (F_5setting k z)))) (hp o0 a0 t0 p0 (mo z sa ro te fr to un ga pi be bm en sta sv ln F_5setting_th hh) u0 l0) 0 0 := by
  refine CT.of (L := [some (.ref 16384), some (.int (nI (k)))]) rfl rfl ?_
  refine AR.run g_X5_setting_0_6 8 [some (.ref 16384), some (.int (nI (k)))] [.int (nI (3)), .int (nI (0)), .int (nI (k))] (hp o0 a0 t0 p0 (mo z sa ro te fr to un ga pi be bm en sta sv ln (nI (0)) hh) u0 l0) [] rfl trivial ?_
  refine AR.callS1 [.int (nI (k)), .int (nI (0)), .int (nI (3))] [] lk_5_44 dc_X5_setting_8 (s_within _ (nI (k)) (nI (0)) (nI (3)) ) (by first | rfl | (simp only [nI_add, pk_mul]; first | done | rfl)) rfl ?_
  refine AR.top (wiN_t (by omega) (by omega) (by decide)) ?_
  refine AR.eqN (tgt := 26) (a := 1) dc_X5_setting_11 (by decide) (by first | rfl | (simp only [nI_add, pk_mul]; first | done | rfl)) (by omega) (fun c11_1 => absurd c11_1 (by omega)) (fun c11_1 => ?_)
  refine AR.run g_X5_setting_14_5 22 [some (.ref 16384), some (.int (nI (k)))] [.int ((nI (7)) + (nI (k))), .ref 16385] _ [] rfl trivial ?_
  refine AR.ald (n := 0) (e := (7 + k)) ok_X5_setting_22 (by first | rfl | (simp only [nI_add, pk_mul]; first | done | rfl)) rfl (by omega) (by first | decide | omega) ?_
  refine AR.run g_X5_setting_23_1 31 [some (.ref 16384), some (.int (nI (k)))] [.int (z (7 + k))] _ [] rfl trivial ?_
  have e2_0 : F_5setting k z = (z (7 + k)) := by rw [F_5setting]
  have e2_1 : F_5setting_th = (nI (0)) := by rw [F_5setting_th]
  exact AR.retI dc_X5_setting_31 rfl e2_0.symm (by rw [e2_1])
def F_5ifPassedA : Int32 := (nI (0))
theorem F_5ifPassedA_01 : F_5ifPassedA  = nI 0 ∨ F_5ifPassedA  = nI 1 := by
  unfold F_5ifPassedA
  (repeat' split) <;> first | exact Or.inl rfl | exact Or.inr rfl | exact wi01 _ _ _
def F_5ifPassedA_th : Int32 := (nI (1))
theorem g_X5_ifPassed_0_5 : ab_oks M_X5_ifPassed [(0, .aload_n 0, 1, 0, 0, 0, .null), (1, .iconst 0, 1, 0, 0, 0, .int (nI (0))), (2, .putfield 40, 3, 5, 15, 951, .null), (5, .iload_n 2, 1, 2, 0, 0, .null), (6, .iconst (-1), 1, 0, 0, 0, .int (-1))] = true := by decide +kernel
theorem dc_X5_ifPassed_7 : decode (AM.bytes M_X5_ifPassed) 7 = .ok (.if_icmp .eq 17, 3) := by decide +kernel
theorem g_X5_ifPassed_10_2 : ab_oks M_X5_ifPassed [(10, .aload_n 0, 1, 0, 0, 0, .null), (11, .iload_n 2, 1, 2, 0, 0, .null)] = true := by decide +kernel
theorem dc_X5_ifPassed_12 : decode (AM.bytes M_X5_ifPassed) 12 = .ok (.invokevirtual 89, 3) := by decide +kernel
theorem dc_X5_ifPassed_15 : decode (AM.bytes M_X5_ifPassed) 15 = .ok (.ifCond .ne 9, 3) := by decide +kernel
theorem g_X5_ifPassed_18_2 : ab_oks M_X5_ifPassed [(18, .aload_n 0, 1, 0, 0, 0, .null), (19, .iconst 1, 1, 0, 0, 0, .int (nI (1)))] = true := by decide +kernel
theorem dc_X5_ifPassed_20 : decode (AM.bytes M_X5_ifPassed) 20 = .ok (.invokevirtual 51, 3) := by decide +kernel
theorem dc_X5_ifPassed_23 : decode (AM.bytes M_X5_ifPassed) 23 = .ok (.ireturn, 1) := by decide +kernel
set_option maxRecDepth 100000 in
set_option maxHeartbeats 4000000 in
theorem s_5ifPassedA {E : AE} (d : Nat) (m : Int32) (x : Int32) {nv : Nat} {nc : Nat} {nr : Nat} {ne : Nat}  {o0 a0 t0 p0 u0 l0 : List AC} {z sa ro te fr to un ga pi be : Nat → Int32} {bm en sta sv ln th : Int32} {hh : Int64} (hZ : ZI z nv nc nr ne) (hbad : ¬ ∃ q9 : Nat, q9 < nc ∧ x = nI q9) (hx1 : ¬ x = -1) : CT E M_X5_ifPassed (d + 5) [.ref 16384, .int (m), .int (x)] (hp o0 a0 t0 p0 (mo z sa ro te fr to un ga pi be bm en sta sv ln th hh) u0 l0) (.inl (some (.int (F_5ifPassedA)))) (hp o0 a0 t0 p0 (mo z sa ro te fr to un ga pi be bm en sta sv ln F_5ifPassedA_th hh) u0 l0) 0 0 := by
  obtain ⟨⟨hnv, h12⟩, ⟨hnc, h4⟩, ⟨hnr, h3⟩, ⟨hne, h60⟩, hLV⟩ := id hZ
  refine CT.of (L := [some (.ref 16384), some (.int (m)), some (.int (x))]) rfl rfl ?_
  refine AR.run g_X5_ifPassed_0_5 7 [some (.ref 16384), some (.int (m)), some (.int (x))] [.int (-1), .int (x)] (hp o0 a0 t0 p0 (mo z sa ro te fr to un ga pi be bm en sta sv ln (nI (0)) hh) u0 l0) [] rfl trivial ?_
  refine AR.eq2 (tgt := 24) dc_X5_ifPassed_7 (by decide) (fun c7_1 => absurd c7_1 hx1) (fun c7_1 => ?_)
  refine AR.run g_X5_ifPassed_10_2 12 [some (.ref 16384), some (.int (m)), some (.int (x))] [.int (x), .ref 16384] _ [] rfl trivial ?_
  refine AR.callV1 (16384) [.int (x)] [] lk_5_89 dc_X5_ifPassed_12 rfl rfl (CT.ret (s_isCradle _ x hZ.2.1.1) (wiV_f (by omega) (by assumption))) (by first | rfl | (simp only [nI_add, pk_mul]; first | done | rfl)) rfl ?_
  refine AR.neN (tgt := 24) (a := 0) dc_X5_ifPassed_15 (by decide) (by first | rfl | (simp only [nI_add, pk_mul]; first | done | rfl)) (by omega) (fun c15_2 => absurd c15_2 (by omega)) (fun c15_2 => ?_)
  refine AR.run g_X5_ifPassed_18_2 20 [some (.ref 16384), some (.int (m)), some (.int (x))] [.int (nI (1)), .ref 16384] _ [] rfl trivial ?_
  refine AR.callV1 (16384) [.int (nI (1))] [] lk_5_51 dc_X5_ifPassed_20 rfl rfl (s_fails _ (nI (1)) ) (by first | rfl | (simp only [nI_add, pk_mul]; first | done | rfl)) rfl ?_
  have e3_0 : F_5ifPassedA = (nI (0)) := by rw [F_5ifPassedA]
  have e3_1 : F_5ifPassedA_th = (nI (1)) := by rw [F_5ifPassedA_th]
  exact AR.retI dc_X5_ifPassed_23 rfl e3_0.symm (by rw [e3_1])
def F_5ifPassedB : Int32 := (nI (0))
theorem F_5ifPassedB_01 : F_5ifPassedB  = nI 0 ∨ F_5ifPassedB  = nI 1 := by
  unfold F_5ifPassedB
  (repeat' split) <;> first | exact Or.inl rfl | exact Or.inr rfl | exact wi01 _ _ _
def F_5ifPassedB_th : Int32 := (nI (2))
theorem g_X5_ifPassed_24_3 : ab_oks M_X5_ifPassed [(24, .iload_n 1, 1, 1, 0, 0, .null), (25, .iconst 1, 1, 0, 0, 0, .int (nI (1))), (26, .sipush 500, 3, 0, 0, 0, .int (nI (500)))] = true := by decide +kernel
theorem dc_X5_ifPassed_29 : decode (AM.bytes M_X5_ifPassed) 29 = .ok (.invokestatic 44, 3) := by decide +kernel
theorem dc_X5_ifPassed_32 : decode (AM.bytes M_X5_ifPassed) 32 = .ok (.ifCond .eq 12, 3) := by decide +kernel
theorem g_X5_ifPassed_44_2 : ab_oks M_X5_ifPassed [(44, .aload_n 0, 1, 0, 0, 0, .null), (45, .iconst 2, 1, 0, 0, 0, .int (nI (2)))] = true := by decide +kernel
theorem dc_X5_ifPassed_46 : decode (AM.bytes M_X5_ifPassed) 46 = .ok (.invokevirtual 51, 3) := by decide +kernel
theorem dc_X5_ifPassed_49 : decode (AM.bytes M_X5_ifPassed) 49 = .ok (.ireturn, 1) := by decide +kernel
set_option maxRecDepth 100000 in
set_option maxHeartbeats 4000000 in
theorem s_5ifPassedB {E : AE} (d : Nat) (x : Int32) (c : Nat) {nv : Nat} {nc : Nat} {nr : Nat} {ne : Nat}  {o0 a0 t0 p0 u0 l0 : List AC} {z sa ro te fr to un ga pi be : Nat → Int32} {bm en sta sv ln th : Int32} {hh : Int64} (hZ : ZI z nv nc nr ne) (hc : c < nc) (hx : wi x (nI 1) (nI 500) = nI 0) : CT E M_X5_ifPassed (d + 5) [.ref 16384, .int (x), .int (nI (c))] (hp o0 a0 t0 p0 (mo z sa ro te fr to un ga pi be bm en sta sv ln th hh) u0 l0) (.inl (some (.int (F_5ifPassedB)))) (hp o0 a0 t0 p0 (mo z sa ro te fr to un ga pi be bm en sta sv ln F_5ifPassedB_th hh) u0 l0) 0 0 := by
  obtain ⟨⟨hnv, h12⟩, ⟨hnc, h4⟩, ⟨hnr, h3⟩, ⟨hne, h60⟩, hLV⟩ := id hZ
  refine CT.of (L := [some (.ref 16384), some (.int (x)), some (.int (nI (c)))]) rfl rfl ?_
  refine AR.run g_X5_ifPassed_0_5 7 [some (.ref 16384), some (.int (x)), some (.int (nI (c)))] [.int (-1), .int (nI (c))] (hp o0 a0 t0 p0 (mo z sa ro te fr to un ga pi be bm en sta sv ln (nI (0)) hh) u0 l0) [] rfl trivial ?_
  refine AR.eq2 (tgt := 24) dc_X5_ifPassed_7 (by decide) (fun c7_1 => absurd c7_1 (nI_m1 (by omega))) (fun c7_1 => ?_)
  refine AR.run g_X5_ifPassed_10_2 12 [some (.ref 16384), some (.int (x)), some (.int (nI (c)))] [.int (nI (c)), .ref 16384] _ [] rfl trivial ?_
  refine AR.callV1 (16384) [.int (nI (c))] [] lk_5_89 dc_X5_ifPassed_12 rfl rfl (CT.ret (s_isCradle _ (nI (c)) hZ.2.1.1) (wiV_t (by omega) (by omega))) (by first | rfl | (simp only [nI_add, pk_mul]; first | done | rfl)) rfl ?_
  refine AR.neN (tgt := 24) (a := 1) dc_X5_ifPassed_15 (by decide) (by first | rfl | (simp only [nI_add, pk_mul]; first | done | rfl)) (by omega) (fun c15_2 => ?_) (fun c15_2 => absurd c15_2 (by omega))
  refine AR.run g_X5_ifPassed_24_3 29 [some (.ref 16384), some (.int (x)), some (.int (nI (c)))] [.int (nI (500)), .int (nI (1)), .int (x)] _ [] rfl trivial ?_
  refine AR.callS1 [.int (x), .int (nI (1)), .int (nI (500))] [] lk_5_44 dc_X5_ifPassed_29 (s_within _ x (nI (1)) (nI (500)) ) (by first | rfl | (simp only [nI_add, pk_mul]; first | done | rfl)) rfl ?_
  refine AR.top hx ?_
  refine AR.eqN (tgt := 44) (a := 0) dc_X5_ifPassed_32 (by decide) (by first | rfl | (simp only [nI_add, pk_mul]; first | done | rfl)) (by omega) (fun c32_3 => ?_) (fun c32_3 => absurd c32_3 (by omega))
  refine AR.run g_X5_ifPassed_44_2 46 [some (.ref 16384), some (.int (x)), some (.int (nI (c)))] [.int (nI (2)), .ref 16384] _ [] rfl trivial ?_
  refine AR.callV1 (16384) [.int (nI (2))] [] lk_5_51 dc_X5_ifPassed_46 rfl rfl (s_fails _ (nI (2)) ) (by first | rfl | (simp only [nI_add, pk_mul]; first | done | rfl)) rfl ?_
  have e4_0 : F_5ifPassedB = (nI (0)) := by rw [F_5ifPassedB]
  have e4_1 : F_5ifPassedB_th = (nI (2)) := by rw [F_5ifPassedB_th]
  exact AR.retI dc_X5_ifPassed_49 rfl e4_0.symm (by rw [e4_1])
def F_5ifPassedC : Int32 := (nI (0))
theorem F_5ifPassedC_01 : F_5ifPassedC  = nI 0 ∨ F_5ifPassedC  = nI 1 := by
  unfold F_5ifPassedC
  (repeat' split) <;> first | exact Or.inl rfl | exact Or.inr rfl | exact wi01 _ _ _
def F_5ifPassedC_th : Int32 := (nI (2))
set_option maxRecDepth 100000 in
set_option maxHeartbeats 4000000 in
theorem s_5ifPassedC {E : AE} (d : Nat) (x : Int32) {nv : Nat} {nc : Nat} {nr : Nat} {ne : Nat}  {o0 a0 t0 p0 u0 l0 : List AC} {z sa ro te fr to un ga pi be : Nat → Int32} {bm en sta sv ln th : Int32} {hh : Int64} (hZ : ZI z nv nc nr ne) (hx : wi x (nI 1) (nI 500) = nI 0) : CT E M_X5_ifPassed (d + 5) [.ref 16384, .int (x), .int (-1)] (hp o0 a0 t0 p0 (mo z sa ro te fr to un ga pi be bm en sta sv ln th hh) u0 l0) (.inl (some (.int (F_5ifPassedC)))) (hp o0 a0 t0 p0 (mo z sa ro te fr to un ga pi be bm en sta sv ln F_5ifPassedC_th hh) u0 l0) 0 0 := by
  obtain ⟨⟨hnv, h12⟩, ⟨hnc, h4⟩, ⟨hnr, h3⟩, ⟨hne, h60⟩, hLV⟩ := id hZ
  refine CT.of (L := [some (.ref 16384), some (.int (x)), some (.int (-1))]) rfl rfl ?_
  refine AR.run g_X5_ifPassed_0_5 7 [some (.ref 16384), some (.int (x)), some (.int (-1))] [.int (-1), .int (-1)] (hp o0 a0 t0 p0 (mo z sa ro te fr to un ga pi be bm en sta sv ln (nI (0)) hh) u0 l0) [] rfl trivial ?_
  refine AR.eq2 (tgt := 24) dc_X5_ifPassed_7 (by decide) (fun c7_1 => ?_) (fun c7_1 => absurd c7_1 (fun q => q rfl))
  refine AR.run g_X5_ifPassed_24_3 29 [some (.ref 16384), some (.int (x)), some (.int (-1))] [.int (nI (500)), .int (nI (1)), .int (x)] _ [] rfl trivial ?_
  refine AR.callS1 [.int (x), .int (nI (1)), .int (nI (500))] [] lk_5_44 dc_X5_ifPassed_29 (s_within _ x (nI (1)) (nI (500)) ) (by first | rfl | (simp only [nI_add, pk_mul]; first | done | rfl)) rfl ?_
  refine AR.top hx ?_
  refine AR.eqN (tgt := 44) (a := 0) dc_X5_ifPassed_32 (by decide) (by first | rfl | (simp only [nI_add, pk_mul]; first | done | rfl)) (by omega) (fun c32_2 => ?_) (fun c32_2 => absurd c32_2 (by omega))
  refine AR.run g_X5_ifPassed_44_2 46 [some (.ref 16384), some (.int (x)), some (.int (-1))] [.int (nI (2)), .ref 16384] _ [] rfl trivial ?_
  refine AR.callV1 (16384) [.int (nI (2))] [] lk_5_51 dc_X5_ifPassed_46 rfl rfl (s_fails _ (nI (2)) ) (by first | rfl | (simp only [nI_add, pk_mul]; first | done | rfl)) rfl ?_
  have e3_0 : F_5ifPassedC = (nI (0)) := by rw [F_5ifPassedC]
  have e3_1 : F_5ifPassedC_th = (nI (2)) := by rw [F_5ifPassedC_th]
  exact AR.retI dc_X5_ifPassed_49 rfl e3_0.symm (by rw [e3_1])
def F_5ifPassedD (m : Nat) (c : Nat) (nv : Nat) (nc : Nat) (nr : Nat) (z : Nat → Int32) : Int32 := (F_5passedNow m (nI (c)) nv nc nr z)
def F_5ifPassedD_sa (z : Nat → Int32) (sa : Nat → Int32) : Nat → Int32 := (F_5passedNow_sa z sa)
def F_5ifPassedD_th : Int32 := (nI (0))
theorem g_X5_ifPassed_35_3 : ab_oks M_X5_ifPassed [(35, .aload_n 0, 1, 0, 0, 0, .null), (36, .iload_n 1, 1, 1, 0, 0, .null), (37, .iload_n 2, 1, 2, 0, 0, .null)] = true := by decide +kernel
theorem dc_X5_ifPassed_38 : decode (AM.bytes M_X5_ifPassed) 38 = .ok (.invokevirtual 191, 3) := by decide +kernel
theorem g_X5_ifPassed_41_1 : ab_oks M_X5_ifPassed [(41, .goto 8, 3, 49, 0, 0, .null)] = true := by decide +kernel
set_option maxRecDepth 100000 in
set_option maxHeartbeats 4000000 in
theorem s_5ifPassedD {E : AE} (d : Nat) (m : Nat) (c : Nat) {nv : Nat} {nc : Nat} {nr : Nat} {ne : Nat}  {o0 a0 t0 p0 u0 l0 : List AC} {z sa ro te fr to un ga pi be : Nat → Int32} {bm en sta sv ln th : Int32} {hh : Int64} (hZ : ZI z nv nc nr ne) (hc : c < nc) (h1m : 1 ≤ m) (hm : m ≤ 500) : CT E M_X5_ifPassed (d + 5) [.ref 16384, .int (nI (m)), .int (nI (c))] (hp o0 a0 t0 p0 (mo z sa ro te fr to un ga pi be bm en sta sv ln th hh) u0 l0) (.inl (some (.int (F_5ifPassedD m c nv nc nr z)))) (hp o0 a0 t0 p0 (mo z (F_5ifPassedD_sa z sa) ro te fr to un ga pi be bm en sta sv ln F_5ifPassedD_th hh) u0 l0) 0 0 := by
  obtain ⟨⟨hnv, h12⟩, ⟨hnc, h4⟩, ⟨hnr, h3⟩, ⟨hne, h60⟩, hLV⟩ := id hZ
  refine CT.of (L := [some (.ref 16384), some (.int (nI (m))), some (.int (nI (c)))]) rfl rfl ?_
  refine AR.run g_X5_ifPassed_0_5 7 [some (.ref 16384), some (.int (nI (m))), some (.int (nI (c)))] [.int (-1), .int (nI (c))] (hp o0 a0 t0 p0 (mo z sa ro te fr to un ga pi be bm en sta sv ln (nI (0)) hh) u0 l0) [] rfl trivial ?_
  refine AR.eq2 (tgt := 24) dc_X5_ifPassed_7 (by decide) (fun c7_1 => absurd c7_1 (nI_m1 (by omega))) (fun c7_1 => ?_)
  refine AR.run g_X5_ifPassed_10_2 12 [some (.ref 16384), some (.int (nI (m))), some (.int (nI (c)))] [.int (nI (c)), .ref 16384] _ [] rfl trivial ?_
  refine AR.callV1 (16384) [.int (nI (c))] [] lk_5_89 dc_X5_ifPassed_12 rfl rfl (CT.ret (s_isCradle _ (nI (c)) hZ.2.1.1) (wiV_t (by omega) (by omega))) (by first | rfl | (simp only [nI_add, pk_mul]; first | done | rfl)) rfl ?_
  refine AR.neN (tgt := 24) (a := 1) dc_X5_ifPassed_15 (by decide) (by first | rfl | (simp only [nI_add, pk_mul]; first | done | rfl)) (by omega) (fun c15_2 => ?_) (fun c15_2 => absurd c15_2 (by omega))
  refine AR.run g_X5_ifPassed_24_3 29 [some (.ref 16384), some (.int (nI (m))), some (.int (nI (c)))] [.int (nI (500)), .int (nI (1)), .int (nI (m))] _ [] rfl trivial ?_
  refine AR.callS1 [.int (nI (m)), .int (nI (1)), .int (nI (500))] [] lk_5_44 dc_X5_ifPassed_29 (s_within _ (nI (m)) (nI (1)) (nI (500)) ) (by first | rfl | (simp only [nI_add, pk_mul]; first | done | rfl)) rfl ?_
  refine AR.top (wiN_t (by omega) (by omega) (by decide)) ?_
  refine AR.eqN (tgt := 44) (a := 1) dc_X5_ifPassed_32 (by decide) (by first | rfl | (simp only [nI_add, pk_mul]; first | done | rfl)) (by omega) (fun c32_3 => absurd c32_3 (by omega)) (fun c32_3 => ?_)
  refine AR.run g_X5_ifPassed_35_3 38 [some (.ref 16384), some (.int (nI (m))), some (.int (nI (c)))] [.int (nI (c)), .int (nI (m)), .ref 16384] _ [] rfl trivial ?_
  refine AR.callV1 (16384) [.int (nI (m)), .int (nI (c))] [] lk_5_191 dc_X5_ifPassed_38 rfl rfl ((CT.hp (k := (hp o0 a0 t0 p0 (mo z (F_5passedNow_sa z sa) ro te fr to un ga pi be bm en sta sv ln (nI (0)) hh) u0 l0)) (s_5passedNow _ m (nI (c)) (by assumption) (by omega)) (by rw [pN_back hZ]))) (by first | rfl | (simp only [nI_add, pk_mul]; first | done | rfl)) rfl ?_
  refine AR.run g_X5_ifPassed_41_1 49 [some (.ref 16384), some (.int (nI (m))), some (.int (nI (c)))] [.int (F_5passedNow m (nI (c)) nv nc nr z)] _ [] rfl trivial ?_
  have e4_0 : F_5ifPassedD m c nv nc nr z = (F_5passedNow m (nI (c)) nv nc nr z) := by rw [F_5ifPassedD]
  have e4_1 : F_5ifPassedD_sa z sa = (F_5passedNow_sa z sa) := by rw [F_5ifPassedD_sa]
  have e4_2 : F_5ifPassedD_th = (nI (0)) := by rw [F_5ifPassedD_th]
  exact AR.retI dc_X5_ifPassed_49 rfl e4_0.symm (by rw [e4_1, e4_2])
def F_5ifPassedE (m : Nat) (nv : Nat) (nc : Nat) (nr : Nat) (z : Nat → Int32) : Int32 := (F_5passedNow m (-1) nv nc nr z)
def F_5ifPassedE_sa (z : Nat → Int32) (sa : Nat → Int32) : Nat → Int32 := (F_5passedNow_sa z sa)
def F_5ifPassedE_th : Int32 := (nI (0))
set_option maxRecDepth 100000 in
set_option maxHeartbeats 4000000 in
theorem s_5ifPassedE {E : AE} (d : Nat) (m : Nat) {nv : Nat} {nc : Nat} {nr : Nat} {ne : Nat}  {o0 a0 t0 p0 u0 l0 : List AC} {z sa ro te fr to un ga pi be : Nat → Int32} {bm en sta sv ln th : Int32} {hh : Int64} (hZ : ZI z nv nc nr ne) (h1m : 1 ≤ m) (hm : m ≤ 500) : CT E M_X5_ifPassed (d + 5) [.ref 16384, .int (nI (m)), .int (-1)] (hp o0 a0 t0 p0 (mo z sa ro te fr to un ga pi be bm en sta sv ln th hh) u0 l0) (.inl (some (.int (F_5ifPassedE m nv nc nr z)))) (hp o0 a0 t0 p0 (mo z (F_5ifPassedE_sa z sa) ro te fr to un ga pi be bm en sta sv ln F_5ifPassedE_th hh) u0 l0) 0 0 := by
  obtain ⟨⟨hnv, h12⟩, ⟨hnc, h4⟩, ⟨hnr, h3⟩, ⟨hne, h60⟩, hLV⟩ := id hZ
  refine CT.of (L := [some (.ref 16384), some (.int (nI (m))), some (.int (-1))]) rfl rfl ?_
  refine AR.run g_X5_ifPassed_0_5 7 [some (.ref 16384), some (.int (nI (m))), some (.int (-1))] [.int (-1), .int (-1)] (hp o0 a0 t0 p0 (mo z sa ro te fr to un ga pi be bm en sta sv ln (nI (0)) hh) u0 l0) [] rfl trivial ?_
  refine AR.eq2 (tgt := 24) dc_X5_ifPassed_7 (by decide) (fun c7_1 => ?_) (fun c7_1 => absurd c7_1 (fun q => q rfl))
  refine AR.run g_X5_ifPassed_24_3 29 [some (.ref 16384), some (.int (nI (m))), some (.int (-1))] [.int (nI (500)), .int (nI (1)), .int (nI (m))] _ [] rfl trivial ?_
  refine AR.callS1 [.int (nI (m)), .int (nI (1)), .int (nI (500))] [] lk_5_44 dc_X5_ifPassed_29 (s_within _ (nI (m)) (nI (1)) (nI (500)) ) (by first | rfl | (simp only [nI_add, pk_mul]; first | done | rfl)) rfl ?_
  refine AR.top (wiN_t (by omega) (by omega) (by decide)) ?_
  refine AR.eqN (tgt := 44) (a := 1) dc_X5_ifPassed_32 (by decide) (by first | rfl | (simp only [nI_add, pk_mul]; first | done | rfl)) (by omega) (fun c32_2 => absurd c32_2 (by omega)) (fun c32_2 => ?_)
  refine AR.run g_X5_ifPassed_35_3 38 [some (.ref 16384), some (.int (nI (m))), some (.int (-1))] [.int (-1), .int (nI (m)), .ref 16384] _ [] rfl trivial ?_
  refine AR.callV1 (16384) [.int (nI (m)), .int (-1)] [] lk_5_191 dc_X5_ifPassed_38 rfl rfl ((CT.hp (k := (hp o0 a0 t0 p0 (mo z (F_5passedNow_sa z sa) ro te fr to un ga pi be bm en sta sv ln (nI (0)) hh) u0 l0)) (s_5passedNow _ m (-1) (by assumption) (by omega)) (by rw [pN_back hZ]))) (by first | rfl | (simp only [nI_add, pk_mul]; first | done | rfl)) rfl ?_
  refine AR.run g_X5_ifPassed_41_1 49 [some (.ref 16384), some (.int (nI (m))), some (.int (-1))] [.int (F_5passedNow m (-1) nv nc nr z)] _ [] rfl trivial ?_
  have e3_0 : F_5ifPassedE m nv nc nr z = (F_5passedNow m (-1) nv nc nr z) := by rw [F_5ifPassedE]
  have e3_1 : F_5ifPassedE_sa z sa = (F_5passedNow_sa z sa) := by rw [F_5ifPassedE_sa]
  have e3_2 : F_5ifPassedE_th = (nI (0)) := by rw [F_5ifPassedE_th]
  exact AR.retI dc_X5_ifPassed_49 rfl e3_0.symm (by rw [e3_1, e3_2])
def F_5doneIn (nv : Nat) (nc : Nat) (nr : Nat) (z : Nat → Int32) (sa : Nat → Int32) : Int32 := (F_5doneNow nv nc nr z sa)
def F_5doneIn_sa (z : Nat → Int32) (sa : Nat → Int32) : Nat → Int32 := (F_5doneNow_sa z sa)
def F_5doneIn_th : Int32 := (nI (0))
theorem g_X5_doneIn_0_4 : ab_oks M_X5_doneIn [(0, .aload_n 0, 1, 0, 0, 0, .null), (1, .iconst 0, 1, 0, 0, 0, .int (nI (0))), (2, .putfield 40, 3, 5, 15, 951, .null), (5, .aload_n 0, 1, 0, 0, 0, .null)] = true := by decide +kernel
theorem dc_X5_doneIn_6 : decode (AM.bytes M_X5_doneIn) 6 = .ok (.invokevirtual 197, 3) := by decide +kernel
theorem dc_X5_doneIn_9 : decode (AM.bytes M_X5_doneIn) 9 = .ok (.ireturn, 1) := by decide +kernel
set_option maxRecDepth 100000 in
set_option maxHeartbeats 4000000 in
theorem s_5doneIn {E : AE} (d : Nat) {nv : Nat} {nc : Nat} {nr : Nat} {ne : Nat}  {o0 a0 t0 p0 u0 l0 : List AC} {z sa ro te fr to un ga pi be : Nat → Int32} {bm en sta sv ln th : Int32} {hh : Int64} (hZ : ZI z nv nc nr ne) : CT E M_X5_doneIn (d + 5) [.ref 16384] (hp o0 a0 t0 p0 (mo z sa ro te fr to un ga pi be bm en sta sv ln th hh) u0 l0) (.inl (some (.int (F_5doneIn nv nc nr z sa)))) (hp o0 a0 t0 p0 (mo z (F_5doneIn_sa z sa) ro te fr to un ga pi be bm en sta sv ln F_5doneIn_th hh) u0 l0) 0 0 := by
  obtain ⟨⟨hnv, h12⟩, ⟨hnc, h4⟩, ⟨hnr, h3⟩, ⟨hne, h60⟩, hLV⟩ := id hZ
  refine CT.of (L := [some (.ref 16384)]) rfl rfl ?_
  refine AR.run g_X5_doneIn_0_4 6 [some (.ref 16384)] [.ref 16384] (hp o0 a0 t0 p0 (mo z sa ro te fr to un ga pi be bm en sta sv ln (nI (0)) hh) u0 l0) [] rfl trivial ?_
  refine AR.callV1 (16384) [] [] lk_5_197 dc_X5_doneIn_6 rfl rfl ((CT.hp (k := (hp o0 a0 t0 p0 (mo z (F_5doneNow_sa z sa) ro te fr to un ga pi be bm en sta sv ln (nI (0)) hh) u0 l0)) (s_5doneNow _  (by assumption)) (by rw [dN_back hZ]))) (by first | rfl | (simp only [nI_add, pk_mul]; first | done | rfl)) rfl ?_
  have e1_0 : F_5doneIn nv nc nr z sa = (F_5doneNow nv nc nr z sa) := by rw [F_5doneIn]
  have e1_1 : F_5doneIn_sa z sa = (F_5doneNow_sa z sa) := by rw [F_5doneIn_sa]
  have e1_2 : F_5doneIn_th = (nI (0)) := by rw [F_5doneIn_th]
  exact AR.retI dc_X5_doneIn_9 rfl e1_0.symm (by rw [e1_1, e1_2])
def F_5quickestA : Int32 := (nI (0))
theorem F_5quickestA_01 : F_5quickestA  = nI 0 ∨ F_5quickestA  = nI 1 := by
  unfold F_5quickestA
  (repeat' split) <;> first | exact Or.inl rfl | exact Or.inr rfl | exact wi01 _ _ _
def F_5quickestA_th : Int32 := (nI (1))
theorem g_X5_quickest_0_5 : ab_oks M_X5_quickest [(0, .aload_n 0, 1, 0, 0, 0, .null), (1, .iconst 0, 1, 0, 0, 0, .int (nI (0))), (2, .putfield 40, 3, 5, 15, 951, .null), (5, .aload_n 0, 1, 0, 0, 0, .null), (6, .iload_n 1, 1, 1, 0, 0, .null)] = true := by decide +kernel
theorem dc_X5_quickest_7 : decode (AM.bytes M_X5_quickest) 7 = .ok (.invokevirtual 85, 3) := by decide +kernel
theorem dc_X5_quickest_10 : decode (AM.bytes M_X5_quickest) 10 = .ok (.ifCond .eq 11, 3) := by decide +kernel
theorem g_X5_quickest_21_2 : ab_oks M_X5_quickest [(21, .aload_n 0, 1, 0, 0, 0, .null), (22, .iconst 1, 1, 0, 0, 0, .int (nI (1)))] = true := by decide +kernel
theorem dc_X5_quickest_23 : decode (AM.bytes M_X5_quickest) 23 = .ok (.invokevirtual 51, 3) := by decide +kernel
theorem dc_X5_quickest_26 : decode (AM.bytes M_X5_quickest) 26 = .ok (.ireturn, 1) := by decide +kernel
set_option maxRecDepth 100000 in
set_option maxHeartbeats 4000000 in
theorem s_5quickestA {E : AE} (d : Nat) (x : Int32) {nv : Nat} {nc : Nat} {nr : Nat} {ne : Nat}  {o0 a0 t0 p0 u0 l0 : List AC} {z sa ro te fr to un ga pi be : Nat → Int32} {bm en sta sv ln th : Int32} {hh : Int64} (hZ : ZI z nv nc nr ne) (hbad : ¬ ∃ q9 : Nat, q9 < nv ∧ x = nI q9) : CT E M_X5_quickest (d + 3) [.ref 16384, .int (x)] (hp o0 a0 t0 p0 (mo z sa ro te fr to un ga pi be bm en sta sv ln th hh) u0 l0) (.inl (some (.int (F_5quickestA)))) (hp o0 a0 t0 p0 (mo z sa ro te fr to un ga pi be bm en sta sv ln F_5quickestA_th hh) u0 l0) 0 0 := by
  obtain ⟨⟨hnv, h12⟩, ⟨hnc, h4⟩, ⟨hnr, h3⟩, ⟨hne, h60⟩, hLV⟩ := id hZ
  refine CT.of (L := [some (.ref 16384), some (.int (x))]) rfl rfl ?_
  refine AR.run g_X5_quickest_0_5 7 [some (.ref 16384), some (.int (x))] [.int (x), .ref 16384] (hp o0 a0 t0 p0 (mo z sa ro te fr to un ga pi be bm en sta sv ln (nI (0)) hh) u0 l0) [] rfl trivial ?_
  refine AR.callV1 (16384) [.int (x)] [] lk_5_85 dc_X5_quickest_7 rfl rfl (CT.ret (s_isVolume _ x hZ.1.1) (wiV_f (by omega) (by assumption))) (by first | rfl | (simp only [nI_add, pk_mul]; first | done | rfl)) rfl ?_
  refine AR.eqN (tgt := 21) (a := 0) dc_X5_quickest_10 (by decide) (by first | rfl | (simp only [nI_add, pk_mul]; first | done | rfl)) (by omega) (fun c10_1 => ?_) (fun c10_1 => absurd c10_1 (by omega))
  refine AR.run g_X5_quickest_21_2 23 [some (.ref 16384), some (.int (x))] [.int (nI (1)), .ref 16384] _ [] rfl trivial ?_
  refine AR.callV1 (16384) [.int (nI (1))] [] lk_5_51 dc_X5_quickest_23 rfl rfl (s_fails _ (nI (1)) ) (by first | rfl | (simp only [nI_add, pk_mul]; first | done | rfl)) rfl ?_
  have e2_0 : F_5quickestA = (nI (0)) := by rw [F_5quickestA]
  have e2_1 : F_5quickestA_th = (nI (1)) := by rw [F_5quickestA_th]
  exact AR.retI dc_X5_quickest_26 rfl e2_0.symm (by rw [e2_1])
def F_5quickest (v : Nat) (nr : Nat) (z : Nat → Int32) : Int32 := (L_5quickestNow_4 v z nr)
def F_5quickest_th : Int32 := (nI (0))
theorem g_X5_quickest_13_2 : ab_oks M_X5_quickest [(13, .aload_n 0, 1, 0, 0, 0, .null), (14, .iload_n 1, 1, 1, 0, 0, .null)] = true := by decide +kernel
theorem dc_X5_quickest_15 : decode (AM.bytes M_X5_quickest) 15 = .ok (.invokevirtual 200, 3) := by decide +kernel
theorem g_X5_quickest_18_1 : ab_oks M_X5_quickest [(18, .goto 8, 3, 26, 0, 0, .null)] = true := by decide +kernel
set_option maxRecDepth 100000 in
set_option maxHeartbeats 4000000 in
theorem s_5quickest {E : AE} (d : Nat) (v : Nat) {nv : Nat} {nc : Nat} {nr : Nat} {ne : Nat}  {o0 a0 t0 p0 u0 l0 : List AC} {z sa ro te fr to un ga pi be : Nat → Int32} {bm en sta sv ln th : Int32} {hh : Int64} (hZ : ZI z nv nc nr ne) (hv : v < nv) : CT E M_X5_quickest (d + 3) [.ref 16384, .int (nI (v))] (hp o0 a0 t0 p0 (mo z sa ro te fr to un ga pi be bm en sta sv ln th hh) u0 l0) (.inl (some (.int (F_5quickest v nr z)))) (hp o0 a0 t0 p0 (mo z sa ro te fr to un ga pi be bm en sta sv ln F_5quickest_th hh) u0 l0) 0 0 := by
  obtain ⟨⟨hnv, h12⟩, ⟨hnc, h4⟩, ⟨hnr, h3⟩, ⟨hne, h60⟩, hLV⟩ := id hZ
  refine CT.of (L := [some (.ref 16384), some (.int (nI (v)))]) rfl rfl ?_
  refine AR.run g_X5_quickest_0_5 7 [some (.ref 16384), some (.int (nI (v)))] [.int (nI (v)), .ref 16384] (hp o0 a0 t0 p0 (mo z sa ro te fr to un ga pi be bm en sta sv ln (nI (0)) hh) u0 l0) [] rfl trivial ?_
  refine AR.callV1 (16384) [.int (nI (v))] [] lk_5_85 dc_X5_quickest_7 rfl rfl (CT.ret (s_isVolume _ (nI (v)) hZ.1.1) (wiV_t (by omega) (by omega))) (by first | rfl | (simp only [nI_add, pk_mul]; first | done | rfl)) rfl ?_
  refine AR.eqN (tgt := 21) (a := 1) dc_X5_quickest_10 (by decide) (by first | rfl | (simp only [nI_add, pk_mul]; first | done | rfl)) (by omega) (fun c10_1 => absurd c10_1 (by omega)) (fun c10_1 => ?_)
  refine AR.run g_X5_quickest_13_2 15 [some (.ref 16384), some (.int (nI (v)))] [.int (nI (v)), .ref 16384] _ [] rfl trivial ?_
  refine AR.callV1 (16384) [.int (nI (v))] [] lk_5_200 dc_X5_quickest_15 rfl rfl (s_5quickestNow _ v (by assumption) (by omega)) (by first | rfl | (simp only [nI_add, pk_mul]; first | done | rfl)) rfl ?_
  refine AR.run g_X5_quickest_18_1 26 [some (.ref 16384), some (.int (nI (v)))] [.int (L_5quickestNow_4 v z nr)] _ [] rfl trivial ?_
  have e2_0 : F_5quickest v nr z = (L_5quickestNow_4 v z nr) := by rw [F_5quickest]
  have e2_1 : F_5quickest_th = (nI (0)) := by rw [F_5quickest_th]
  exact AR.retI dc_X5_quickest_26 rfl e2_0.symm (by rw [e2_1])
def F_5bestLoadA : Int32 := (nI (0))
theorem F_5bestLoadA_01 : F_5bestLoadA  = nI 0 ∨ F_5bestLoadA  = nI 1 := by
  unfold F_5bestLoadA
  (repeat' split) <;> first | exact Or.inl rfl | exact Or.inr rfl | exact wi01 _ _ _
def F_5bestLoadA_th : Int32 := (nI (1))
theorem g_X5_bestLoad_0_6 : ab_oks M_X5_bestLoad [(0, .aload_n 0, 1, 0, 0, 0, .null), (1, .iconst 0, 1, 0, 0, 0, .int (nI (0))), (2, .putfield 40, 3, 5, 15, 951, .null), (5, .iload_n 1, 1, 1, 0, 0, .null), (6, .iconst 1, 1, 0, 0, 0, .int (nI (1))), (7, .bipush 100, 2, 0, 0, 0, .int (nI (100)))] = true := by decide +kernel
theorem dc_X5_bestLoad_9 : decode (AM.bytes M_X5_bestLoad) 9 = .ok (.invokestatic 44, 3) := by decide +kernel
theorem dc_X5_bestLoad_12 : decode (AM.bytes M_X5_bestLoad) 12 = .ok (.ifCond .eq 12, 3) := by decide +kernel
theorem g_X5_bestLoad_24_2 : ab_oks M_X5_bestLoad [(24, .aload_n 0, 1, 0, 0, 0, .null), (25, .iconst 1, 1, 0, 0, 0, .int (nI (1)))] = true := by decide +kernel
theorem dc_X5_bestLoad_26 : decode (AM.bytes M_X5_bestLoad) 26 = .ok (.invokevirtual 51, 3) := by decide +kernel
theorem dc_X5_bestLoad_29 : decode (AM.bytes M_X5_bestLoad) 29 = .ok (.ireturn, 1) := by decide +kernel
set_option maxRecDepth 100000 in
set_option maxHeartbeats 4000000 in
theorem s_5bestLoadA {E : AE} (d : Nat) (x : Int32) (y : Int32) {nv : Nat} {nc : Nat} {nr : Nat} {ne : Nat}  {o0 a0 t0 p0 u0 l0 : List AC} {z sa ro te fr to un ga pi be : Nat → Int32} {bm en sta sv ln th : Int32} {hh : Int64} (hZ : ZI z nv nc nr ne) (hx : wi x (nI 1) (nI 100) = nI 0) : CT E M_X5_bestLoad (d + 6) [.ref 16384, .int (x), .int (y)] (hp o0 a0 t0 p0 (mo z sa ro te fr to un ga pi be bm en sta sv ln th hh) u0 l0) (.inl (some (.int (F_5bestLoadA)))) (hp o0 a0 t0 p0 (mo z sa ro te fr to un ga pi be bm en sta sv ln F_5bestLoadA_th hh) u0 l0) 0 0 := by
  obtain ⟨⟨hnv, h12⟩, ⟨hnc, h4⟩, ⟨hnr, h3⟩, ⟨hne, h60⟩, hLV⟩ := id hZ
  refine CT.of (L := [some (.ref 16384), some (.int (x)), some (.int (y))]) rfl rfl ?_
  refine AR.run g_X5_bestLoad_0_6 9 [some (.ref 16384), some (.int (x)), some (.int (y))] [.int (nI (100)), .int (nI (1)), .int (x)] (hp o0 a0 t0 p0 (mo z sa ro te fr to un ga pi be bm en sta sv ln (nI (0)) hh) u0 l0) [] rfl trivial ?_
  refine AR.callS1 [.int (x), .int (nI (1)), .int (nI (100))] [] lk_5_44 dc_X5_bestLoad_9 (s_within _ x (nI (1)) (nI (100)) ) (by first | rfl | (simp only [nI_add, pk_mul]; first | done | rfl)) rfl ?_
  refine AR.top hx ?_
  refine AR.eqN (tgt := 24) (a := 0) dc_X5_bestLoad_12 (by decide) (by first | rfl | (simp only [nI_add, pk_mul]; first | done | rfl)) (by omega) (fun c12_1 => ?_) (fun c12_1 => absurd c12_1 (by omega))
  refine AR.run g_X5_bestLoad_24_2 26 [some (.ref 16384), some (.int (x)), some (.int (y))] [.int (nI (1)), .ref 16384] _ [] rfl trivial ?_
  refine AR.callV1 (16384) [.int (nI (1))] [] lk_5_51 dc_X5_bestLoad_26 rfl rfl (s_fails _ (nI (1)) ) (by first | rfl | (simp only [nI_add, pk_mul]; first | done | rfl)) rfl ?_
  have e2_0 : F_5bestLoadA = (nI (0)) := by rw [F_5bestLoadA]
  have e2_1 : F_5bestLoadA_th = (nI (1)) := by rw [F_5bestLoadA_th]
  exact AR.retI dc_X5_bestLoad_29 rfl e2_0.symm (by rw [e2_1])
def F_5bestLoadB : Int32 := (nI (0))
theorem F_5bestLoadB_01 : F_5bestLoadB  = nI 0 ∨ F_5bestLoadB  = nI 1 := by
  unfold F_5bestLoadB
  (repeat' split) <;> first | exact Or.inl rfl | exact Or.inr rfl | exact wi01 _ _ _
def F_5bestLoadB_th : Int32 := (nI (1))
theorem g_X5_bestLoad_15_3 : ab_oks M_X5_bestLoad [(15, .iload_n 2, 1, 2, 0, 0, .null), (16, .iconst 0, 1, 0, 0, 0, .int (nI (0))), (17, .iconst 4, 1, 0, 0, 0, .int (nI (4)))] = true := by decide +kernel
theorem dc_X5_bestLoad_18 : decode (AM.bytes M_X5_bestLoad) 18 = .ok (.invokestatic 44, 3) := by decide +kernel
theorem dc_X5_bestLoad_21 : decode (AM.bytes M_X5_bestLoad) 21 = .ok (.ifCond .ne 9, 3) := by decide +kernel
set_option maxRecDepth 100000 in
set_option maxHeartbeats 4000000 in
theorem s_5bestLoadB {E : AE} (d : Nat) (m : Nat) (x : Int32) {nv : Nat} {nc : Nat} {nr : Nat} {ne : Nat}  {o0 a0 t0 p0 u0 l0 : List AC} {z sa ro te fr to un ga pi be : Nat → Int32} {bm en sta sv ln th : Int32} {hh : Int64} (hZ : ZI z nv nc nr ne) (h1m : 1 ≤ m) (hm : m ≤ 100) (hx : wi x (nI 0) (nI 4) = nI 0) : CT E M_X5_bestLoad (d + 6) [.ref 16384, .int (nI (m)), .int (x)] (hp o0 a0 t0 p0 (mo z sa ro te fr to un ga pi be bm en sta sv ln th hh) u0 l0) (.inl (some (.int (F_5bestLoadB)))) (hp o0 a0 t0 p0 (mo z sa ro te fr to un ga pi be bm en sta sv ln F_5bestLoadB_th hh) u0 l0) 0 0 := by
  obtain ⟨⟨hnv, h12⟩, ⟨hnc, h4⟩, ⟨hnr, h3⟩, ⟨hne, h60⟩, hLV⟩ := id hZ
  refine CT.of (L := [some (.ref 16384), some (.int (nI (m))), some (.int (x))]) rfl rfl ?_
  refine AR.run g_X5_bestLoad_0_6 9 [some (.ref 16384), some (.int (nI (m))), some (.int (x))] [.int (nI (100)), .int (nI (1)), .int (nI (m))] (hp o0 a0 t0 p0 (mo z sa ro te fr to un ga pi be bm en sta sv ln (nI (0)) hh) u0 l0) [] rfl trivial ?_
  refine AR.callS1 [.int (nI (m)), .int (nI (1)), .int (nI (100))] [] lk_5_44 dc_X5_bestLoad_9 (s_within _ (nI (m)) (nI (1)) (nI (100)) ) (by first | rfl | (simp only [nI_add, pk_mul]; first | done | rfl)) rfl ?_
  refine AR.top (wiN_t (by omega) (by omega) (by decide)) ?_
  refine AR.eqN (tgt := 24) (a := 1) dc_X5_bestLoad_12 (by decide) (by first | rfl | (simp only [nI_add, pk_mul]; first | done | rfl)) (by omega) (fun c12_1 => absurd c12_1 (by omega)) (fun c12_1 => ?_)
  refine AR.run g_X5_bestLoad_15_3 18 [some (.ref 16384), some (.int (nI (m))), some (.int (x))] [.int (nI (4)), .int (nI (0)), .int (x)] _ [] rfl trivial ?_
  refine AR.callS1 [.int (x), .int (nI (0)), .int (nI (4))] [] lk_5_44 dc_X5_bestLoad_18 (s_within _ x (nI (0)) (nI (4)) ) (by first | rfl | (simp only [nI_add, pk_mul]; first | done | rfl)) rfl ?_
  refine AR.top hx ?_
  refine AR.neN (tgt := 30) (a := 0) dc_X5_bestLoad_21 (by decide) (by first | rfl | (simp only [nI_add, pk_mul]; first | done | rfl)) (by omega) (fun c21_2 => absurd c21_2 (by omega)) (fun c21_2 => ?_)
  refine AR.run g_X5_bestLoad_24_2 26 [some (.ref 16384), some (.int (nI (m))), some (.int (x))] [.int (nI (1)), .ref 16384] _ [] rfl trivial ?_
  refine AR.callV1 (16384) [.int (nI (1))] [] lk_5_51 dc_X5_bestLoad_26 rfl rfl (s_fails _ (nI (1)) ) (by first | rfl | (simp only [nI_add, pk_mul]; first | done | rfl)) rfl ?_
  have e3_0 : F_5bestLoadB = (nI (0)) := by rw [F_5bestLoadB]
  have e3_1 : F_5bestLoadB_th = (nI (1)) := by rw [F_5bestLoadB_th]
  exact AR.retI dc_X5_bestLoad_29 rfl e3_0.symm (by rw [e3_1])
def F_5bestLoad (m : Nat) (w : Nat) (nv : Nat) (nc : Nat) (z : Nat → Int32) (ga : Nat → Int32) (pi : Nat → Int32) (be : Nat → Int32) : Int32 := (F_5bestNow w (F_5layBest_be m nv nc z ga pi be) (F_5layBest_bm m nv nc z ga pi be))
def F_5bestLoad_ga (m : Nat) (nv : Nat) (nc : Nat) (z : Nat → Int32) (ga : Nat → Int32) : Nat → Int32 := (F_5layBest_ga m nv nc z ga)
def F_5bestLoad_pi (m : Nat) (nv : Nat) (nc : Nat) (z : Nat → Int32) (ga : Nat → Int32) (pi : Nat → Int32) (be : Nat → Int32) : Nat → Int32 := (F_5layBest_pi m nv nc z ga pi be)
def F_5bestLoad_be (m : Nat) (nv : Nat) (nc : Nat) (z : Nat → Int32) (ga : Nat → Int32) (pi : Nat → Int32) (be : Nat → Int32) : Nat → Int32 := (F_5layBest_be m nv nc z ga pi be)
def F_5bestLoad_bm (m : Nat) (nv : Nat) (nc : Nat) (z : Nat → Int32) (ga : Nat → Int32) (pi : Nat → Int32) (be : Nat → Int32) : Int32 := (F_5layBest_bm m nv nc z ga pi be)
def F_5bestLoad_th : Int32 := (nI (0))
theorem g_X5_bestLoad_30_2 : ab_oks M_X5_bestLoad [(30, .aload_n 0, 1, 0, 0, 0, .null), (31, .iload_n 1, 1, 1, 0, 0, .null)] = true := by decide +kernel
theorem dc_X5_bestLoad_32 : decode (AM.bytes M_X5_bestLoad) 32 = .ok (.invokevirtual 225, 3) := by decide +kernel
theorem g_X5_bestLoad_35_2 : ab_oks M_X5_bestLoad [(35, .aload_n 0, 1, 0, 0, 0, .null), (36, .iload_n 2, 1, 2, 0, 0, .null)] = true := by decide +kernel
theorem dc_X5_bestLoad_37 : decode (AM.bytes M_X5_bestLoad) 37 = .ok (.invokevirtual 228, 3) := by decide +kernel
theorem dc_X5_bestLoad_40 : decode (AM.bytes M_X5_bestLoad) 40 = .ok (.ireturn, 1) := by decide +kernel
set_option maxRecDepth 100000 in
set_option maxHeartbeats 4000000 in
theorem s_5bestLoad {E : AE} (d : Nat) (m : Nat) (w : Nat) {nv : Nat} {nc : Nat} {nr : Nat} {ne : Nat}  {o0 a0 t0 p0 u0 l0 : List AC} {z sa ro te fr to un ga pi be : Nat → Int32} {bm en sta sv ln th : Int32} {hh : Int64} (hZ : ZI z nv nc nr ne) (h1m : 1 ≤ m) (hm : m ≤ 100) (hw : w < 5) : CT E M_X5_bestLoad (d + 6) [.ref 16384, .int (nI (m)), .int (nI (w))] (hp o0 a0 t0 p0 (mo z sa ro te fr to un ga pi be bm en sta sv ln th hh) u0 l0) (.inl (some (.int (F_5bestLoad m w nv nc z ga pi be)))) (hp o0 a0 t0 p0 (mo z sa ro te fr to un (F_5bestLoad_ga m nv nc z ga) (F_5bestLoad_pi m nv nc z ga pi be) (F_5bestLoad_be m nv nc z ga pi be) (F_5bestLoad_bm m nv nc z ga pi be) en sta sv ln F_5bestLoad_th hh) u0 l0) 0 0 := by
  obtain ⟨⟨hnv, h12⟩, ⟨hnc, h4⟩, ⟨hnr, h3⟩, ⟨hne, h60⟩, hLV⟩ := id hZ
  refine CT.of (L := [some (.ref 16384), some (.int (nI (m))), some (.int (nI (w)))]) rfl rfl ?_
  refine AR.run g_X5_bestLoad_0_6 9 [some (.ref 16384), some (.int (nI (m))), some (.int (nI (w)))] [.int (nI (100)), .int (nI (1)), .int (nI (m))] (hp o0 a0 t0 p0 (mo z sa ro te fr to un ga pi be bm en sta sv ln (nI (0)) hh) u0 l0) [] rfl trivial ?_
  refine AR.callS1 [.int (nI (m)), .int (nI (1)), .int (nI (100))] [] lk_5_44 dc_X5_bestLoad_9 (s_within _ (nI (m)) (nI (1)) (nI (100)) ) (by first | rfl | (simp only [nI_add, pk_mul]; first | done | rfl)) rfl ?_
  refine AR.top (wiN_t (by omega) (by omega) (by decide)) ?_
  refine AR.eqN (tgt := 24) (a := 1) dc_X5_bestLoad_12 (by decide) (by first | rfl | (simp only [nI_add, pk_mul]; first | done | rfl)) (by omega) (fun c12_1 => absurd c12_1 (by omega)) (fun c12_1 => ?_)
  refine AR.run g_X5_bestLoad_15_3 18 [some (.ref 16384), some (.int (nI (m))), some (.int (nI (w)))] [.int (nI (4)), .int (nI (0)), .int (nI (w))] _ [] rfl trivial ?_
  refine AR.callS1 [.int (nI (w)), .int (nI (0)), .int (nI (4))] [] lk_5_44 dc_X5_bestLoad_18 (s_within _ (nI (w)) (nI (0)) (nI (4)) ) (by first | rfl | (simp only [nI_add, pk_mul]; first | done | rfl)) rfl ?_
  refine AR.top (wiN_t (by omega) (by omega) (by decide)) ?_
  refine AR.neN (tgt := 30) (a := 1) dc_X5_bestLoad_21 (by decide) (by first | rfl | (simp only [nI_add, pk_mul]; first | done | rfl)) (by omega) (fun c21_2 => ?_) (fun c21_2 => absurd c21_2 (by omega))
  refine AR.run g_X5_bestLoad_30_2 32 [some (.ref 16384), some (.int (nI (m))), some (.int (nI (w)))] [.int (nI (m)), .ref 16384] _ [] rfl trivial ?_
  refine AR.callV0 (16384) [.int (nI (m))] [] lk_5_225 dc_X5_bestLoad_32 rfl rfl (s_5layBest _ m (by assumption) (by omega) (by omega)) (by first | rfl | (simp only [nI_add, pk_mul]; first | done | rfl)) rfl ?_
  refine AR.run g_X5_bestLoad_35_2 37 [some (.ref 16384), some (.int (nI (m))), some (.int (nI (w)))] [.int (nI (w)), .ref 16384] _ [] rfl trivial ?_
  refine AR.callV1 (16384) [.int (nI (w))] [] lk_5_228 dc_X5_bestLoad_37 rfl rfl (s_5bestNow _ w (by omega)) (by first | rfl | (simp only [nI_add, pk_mul]; first | done | rfl)) rfl ?_
  have e3_0 : F_5bestLoad m w nv nc z ga pi be = (F_5bestNow w (F_5layBest_be m nv nc z ga pi be) (F_5layBest_bm m nv nc z ga pi be)) := by rw [F_5bestLoad]
  have e3_1 : F_5bestLoad_ga m nv nc z ga = (F_5layBest_ga m nv nc z ga) := by rw [F_5bestLoad_ga]
  have e3_2 : F_5bestLoad_pi m nv nc z ga pi be = (F_5layBest_pi m nv nc z ga pi be) := by rw [F_5bestLoad_pi]
  have e3_3 : F_5bestLoad_be m nv nc z ga pi be = (F_5layBest_be m nv nc z ga pi be) := by rw [F_5bestLoad_be]
  have e3_4 : F_5bestLoad_bm m nv nc z ga pi be = (F_5layBest_bm m nv nc z ga pi be) := by rw [F_5bestLoad_bm]
  have e3_5 : F_5bestLoad_th = (nI (0)) := by rw [F_5bestLoad_th]
  exact AR.retI dc_X5_bestLoad_40 rfl e3_0.symm (by rw [e3_1, e3_2, e3_3, e3_4, e3_5])
def F_5openShare (nv : Nat) (nc : Nat) (z : Nat → Int32) (sv : Int32) : UInt64 := (F_5openNow nv nc z sv)
def F_5openShare_th : Int32 := (nI (0))
theorem g_X5_openShare_0_4 : ab_oks M_X5_openShare [(0, .aload_n 0, 1, 0, 0, 0, .null), (1, .iconst 0, 1, 0, 0, 0, .int (nI (0))), (2, .putfield 40, 3, 5, 15, 951, .null), (5, .aload_n 0, 1, 0, 0, 0, .null)] = true := by decide +kernel
theorem dc_X5_openShare_6 : decode (AM.bytes M_X5_openShare) 6 = .ok (.invokevirtual 231, 3) := by decide +kernel
theorem dc_X5_openShare_9 : decode (AM.bytes M_X5_openShare) 9 = .ok (.dreturn, 1) := by decide +kernel
set_option maxRecDepth 100000 in
set_option maxHeartbeats 4000000 in
theorem s_5openShare {E : AE} (d : Nat) {nv : Nat} {nc : Nat} {nr : Nat} {ne : Nat}  {o0 a0 t0 p0 u0 l0 : List AC} {z sa ro te fr to un ga pi be : Nat → Int32} {bm en sta sv ln th : Int32} {hh : Int64} (hZ : ZI z nv nc nr ne) (hnan : ¬ F_5counted 6 nv nc z sv = 0 → vf_n64 (FP.ddiv (FP.i2d (F_5counted 9 nv nc z sv)) (FP.i2d (F_5counted 6 nv nc z sv)))) : CT E M_X5_openShare (d + 7) [.ref 16384] (hp o0 a0 t0 p0 (mo z sa ro te fr to un ga pi be bm en sta sv ln th hh) u0 l0) (.inl (some (.double (F_5openShare nv nc z sv)))) (hp o0 a0 t0 p0 (mo z sa ro te fr to un ga pi be bm en sta sv ln F_5openShare_th hh) u0 l0) 0 0 := by
  obtain ⟨⟨hnv, h12⟩, ⟨hnc, h4⟩, ⟨hnr, h3⟩, ⟨hne, h60⟩, hLV⟩ := id hZ
  refine CT.of (L := [some (.ref 16384)]) rfl rfl ?_
  refine AR.run g_X5_openShare_0_4 6 [some (.ref 16384)] [.ref 16384] (hp o0 a0 t0 p0 (mo z sa ro te fr to un ga pi be bm en sta sv ln (nI (0)) hh) u0 l0) [] rfl trivial ?_
  refine AR.callV1 (16384) [] [] lk_5_231 dc_X5_openShare_6 rfl rfl (s_5openNow _  (by assumption) (by assumption)) (by first | rfl | (simp only [nI_add, pk_mul]; first | done | rfl)) rfl ?_
  have e1_0 : F_5openShare nv nc z sv = (F_5openNow nv nc z sv) := by rw [F_5openShare]
  have e1_1 : F_5openShare_th = (nI (0)) := by rw [F_5openShare_th]
  exact AR.retD dc_X5_openShare_9 rfl e1_0.symm (by rw [e1_1])
