def F_5lastOf (e : Nat) (fr : Nat → Int32) (to : Nat → Int32) : Int32 := if (to e) = (-1) then (fr e) else (to e)
theorem g_X5_lastOf_0_3 : ab_oks M_X5_lastOf [(0, .aload_n 0, 1, 0, 0, 0, .null), (1, .getfield 25, 3, 5, 5, 941, .null), (4, .iload_n 1, 1, 1, 0, 0, .null)] = true := by decide +kernel
theorem ok_X5_lastOf_5 : ab_ok M_X5_lastOf (5, .iaload, 1, 0, 0, 0, .null) = true := by decide +kernel
theorem g_X5_lastOf_6_1 : ab_oks M_X5_lastOf [(6, .iconst (-1), 1, 0, 0, 0, .int (-1))] = true := by decide +kernel
theorem dc_X5_lastOf_7 : decode (AM.bytes M_X5_lastOf) 7 = .ok (.if_icmp .ne 12, 3) := by decide +kernel
theorem g_X5_lastOf_19_3 : ab_oks M_X5_lastOf [(19, .aload_n 0, 1, 0, 0, 0, .null), (20, .getfield 25, 3, 5, 5, 941, .null), (23, .iload_n 1, 1, 1, 0, 0, .null)] = true := by decide +kernel
theorem ok_X5_lastOf_24 : ab_ok M_X5_lastOf (24, .iaload, 1, 0, 0, 0, .null) = true := by decide +kernel
theorem dc_X5_lastOf_25 : decode (AM.bytes M_X5_lastOf) 25 = .ok (.ireturn, 1) := by decide +kernel
theorem g_X5_lastOf_10_3 : ab_oks M_X5_lastOf [(10, .aload_n 0, 1, 0, 0, 0, .null), (11, .getfield 22, 3, 5, 4, 940, .null), (14, .iload_n 1, 1, 1, 0, 0, .null)] = true := by decide +kernel
theorem ok_X5_lastOf_15 : ab_ok M_X5_lastOf (15, .iaload, 1, 0, 0, 0, .null) = true := by decide +kernel
theorem g_X5_lastOf_16_1 : ab_oks M_X5_lastOf [(16, .goto 9, 3, 25, 0, 0, .null)] = true := by decide +kernel
set_option maxRecDepth 100000 in
set_option maxHeartbeats 4000000 in
theorem s_5lastOf {E : AE} (d : Nat) (e : Nat)  {o0 a0 t0 p0 u0 l0 : List AC} {z sa ro te fr to un ga pi be : Nat → Int32} {bm en sta sv ln th : Int32} {hh : Int64} (he16 : e < 16) : CT E M_X5_lastOf d [.ref 16384, .int (nI (e))] (hp o0 a0 t0 p0 (mo z sa ro te fr to un ga pi be bm en sta sv ln th hh) u0 l0) (.inl (some (.int (F_5lastOf e fr to)))) (hp o0 a0 t0 p0 (mo z sa ro te fr to un ga pi be bm en sta sv ln th hh) u0 l0) 0 0 := by
  refine CT.of (L := [some (.ref 16384), some (.int (nI (e)))]) rfl rfl ?_
  refine AR.run g_X5_lastOf_0_3 5 [some (.ref 16384), some (.int (nI (e)))] [.int (nI (e)), .ref 16390] _ [] rfl trivial ?_
  refine AR.ald (n := 0) (e := e) ok_X5_lastOf_5 (by first | rfl | (simp only [nI_add, pk_mul]; first | done | rfl)) rfl (by omega) (by first | decide | omega) ?_
  refine AR.run g_X5_lastOf_6_1 7 [some (.ref 16384), some (.int (nI (e)))] [.int (-1), .int (to e)] _ [] rfl trivial ?_
  refine AR.ne2 (tgt := 19) dc_X5_lastOf_7 (by decide) (fun c7_1 => ?_) (fun c7_1 => ?_)
  · refine AR.run g_X5_lastOf_19_3 24 [some (.ref 16384), some (.int (nI (e)))] [.int (nI (e)), .ref 16390] _ [] rfl trivial ?_
    refine AR.ald (n := 0) (e := e) ok_X5_lastOf_24 (by first | rfl | (simp only [nI_add, pk_mul]; first | done | rfl)) rfl (by omega) (by first | decide | omega) ?_
    have e2_0 : F_5lastOf e fr to = (to e) := by rw [F_5lastOf, if_neg c7_1]
    exact AR.retI dc_X5_lastOf_25 rfl e2_0.symm rfl
  · refine AR.run g_X5_lastOf_10_3 15 [some (.ref 16384), some (.int (nI (e)))] [.int (nI (e)), .ref 16389] _ [] rfl trivial ?_
    refine AR.ald (n := 0) (e := e) ok_X5_lastOf_15 (by first | rfl | (simp only [nI_add, pk_mul]; first | done | rfl)) rfl (by omega) (by first | decide | omega) ?_
    refine AR.run g_X5_lastOf_16_1 25 [some (.ref 16384), some (.int (nI (e)))] [.int (fr e)] _ [] rfl trivial ?_
    have e3_0 : F_5lastOf e fr to = (fr e) := by rw [F_5lastOf, if_pos c7_1]
    exact AR.retI dc_X5_lastOf_25 rfl e3_0.symm rfl
def F_5barA : Int32 := (nI (0))
theorem F_5barA_01 : F_5barA  = nI 0 ∨ F_5barA  = nI 1 := by
  unfold F_5barA
  (repeat' split) <;> first | exact Or.inl rfl | exact Or.inr rfl | exact wi01 _ _ _
def F_5barA_th : Int32 := (nI (1))
theorem g_X5_bar_0_5 : ab_oks M_X5_bar [(0, .aload_n 0, 1, 0, 0, 0, .null), (1, .iconst 0, 1, 0, 0, 0, .int (nI (0))), (2, .putfield 40, 3, 5, 15, 951, .null), (5, .aload_n 0, 1, 0, 0, 0, .null), (6, .iload_n 1, 1, 1, 0, 0, .null)] = true := by decide +kernel
theorem dc_X5_bar_7 : decode (AM.bytes M_X5_bar) 7 = .ok (.invokevirtual 85, 3) := by decide +kernel
theorem dc_X5_bar_10 : decode (AM.bytes M_X5_bar) 10 = .ok (.ifCond .ne 9, 3) := by decide +kernel
theorem g_X5_bar_13_2 : ab_oks M_X5_bar [(13, .aload_n 0, 1, 0, 0, 0, .null), (14, .iconst 1, 1, 0, 0, 0, .int (nI (1)))] = true := by decide +kernel
theorem dc_X5_bar_15 : decode (AM.bytes M_X5_bar) 15 = .ok (.invokevirtual 51, 3) := by decide +kernel
theorem dc_X5_bar_18 : decode (AM.bytes M_X5_bar) 18 = .ok (.ireturn, 1) := by decide +kernel
set_option maxRecDepth 100000 in
set_option maxHeartbeats 4000000 in
theorem s_5barA {E : AE} (d : Nat) (x : Int32) {nv : Nat} {nc : Nat} {nr : Nat} {ne : Nat}  {o0 a0 t0 p0 u0 l0 : List AC} {z sa ro te fr to un ga pi be : Nat → Int32} {bm en sta sv ln th : Int32} {hh : Int64} (hZ : ZI z nv nc nr ne) (hbad : ¬ ∃ q9 : Nat, q9 < nv ∧ x = nI q9) : CT E M_X5_bar (d + 4) [.ref 16384, .int (x)] (hp o0 a0 t0 p0 (mo z sa ro te fr to un ga pi be bm en sta sv ln th hh) u0 l0) (.inl (some (.int (F_5barA)))) (hp o0 a0 t0 p0 (mo z sa ro te fr to un ga pi be bm en sta sv ln F_5barA_th hh) u0 l0) 0 0 := by
  obtain ⟨⟨hnv, h12⟩, ⟨hnc, h4⟩, ⟨hnr, h3⟩, ⟨hne, h60⟩, hLV⟩ := id hZ
  refine CT.of (L := [some (.ref 16384), some (.int (x)), none, none]) rfl rfl ?_
  refine AR.run g_X5_bar_0_5 7 [some (.ref 16384), some (.int (x)), none, none] [.int (x), .ref 16384] (hp o0 a0 t0 p0 (mo z sa ro te fr to un ga pi be bm en sta sv ln (nI (0)) hh) u0 l0) [] rfl trivial ?_
  refine AR.callV1 (16384) [.int (x)] [] lk_5_85 dc_X5_bar_7 rfl rfl (CT.ret (s_isVolume _ x hZ.1.1) (wiV_f (by omega) (by assumption))) (by first | rfl | (simp only [nI_add, pk_mul]; first | done | rfl)) rfl ?_
  refine AR.neN (tgt := 19) (a := 0) dc_X5_bar_10 (by decide) (by first | rfl | (simp only [nI_add, pk_mul]; first | done | rfl)) (by omega) (fun c10_1 => absurd c10_1 (by omega)) (fun c10_1 => ?_)
  refine AR.run g_X5_bar_13_2 15 [some (.ref 16384), some (.int (x)), none, none] [.int (nI (1)), .ref 16384] _ [] rfl trivial ?_
  refine AR.callV1 (16384) [.int (nI (1))] [] lk_5_51 dc_X5_bar_15 rfl rfl (s_fails _ (nI (1)) ) (by first | rfl | (simp only [nI_add, pk_mul]; first | done | rfl)) rfl ?_
  have e2_0 : F_5barA = (nI (0)) := by rw [F_5barA]
  have e2_1 : F_5barA_th = (nI (1)) := by rw [F_5barA_th]
  exact AR.retI dc_X5_bar_18 rfl e2_0.symm (by rw [e2_1])
def F_5barB : Int32 := (nI (0))
theorem F_5barB_01 : F_5barB  = nI 0 ∨ F_5barB  = nI 1 := by
  unfold F_5barB
  (repeat' split) <;> first | exact Or.inl rfl | exact Or.inr rfl | exact wi01 _ _ _
def F_5barB_fr (q : Nat) (te : Nat → Int32) (fr : Nat → Int32) (to : Nat → Int32) (un : Nat → Int32) : Nat → Int32 := (F_5read_fr q te fr to un)
def F_5barB_to (q : Nat) (te : Nat → Int32) (fr : Nat → Int32) (to : Nat → Int32) (un : Nat → Int32) : Nat → Int32 := (F_5read_to q te fr to un)
def F_5barB_un (q : Nat) (te : Nat → Int32) (fr : Nat → Int32) (to : Nat → Int32) (un : Nat → Int32) : Nat → Int32 := (F_5read_un q te fr to un)
def F_5barB_en (q : Nat) (te : Nat → Int32) (fr : Nat → Int32) (to : Nat → Int32) (un : Nat → Int32) : Int32 := (F_5read_en q te fr to un)
def F_5barB_sta (q : Nat) (te : Nat → Int32) (fr : Nat → Int32) (to : Nat → Int32) (un : Nat → Int32) : Int32 := (F_5read_sta q te fr to un)
def F_5barB_th : Int32 := (nI (2))
theorem g_X5_bar_19_1 : ab_oks M_X5_bar [(19, .aload_n 0, 1, 0, 0, 0, .null)] = true := by decide +kernel
theorem dc_X5_bar_20 : decode (AM.bytes M_X5_bar) 20 = .ok (.invokevirtual 143, 3) := by decide +kernel
theorem g_X5_bar_23_2 : ab_oks M_X5_bar [(23, .aload_n 0, 1, 0, 0, 0, .null), (24, .getfield 118, 3, 5, 14, 950, .null)] = true := by decide +kernel
theorem dc_X5_bar_27 : decode (AM.bytes M_X5_bar) 27 = .ok (.if_icmp .lt 12, 3) := by decide +kernel
theorem g_X5_bar_39_2 : ab_oks M_X5_bar [(39, .aload_n 0, 1, 0, 0, 0, .null), (40, .iconst 2, 1, 0, 0, 0, .int (nI (2)))] = true := by decide +kernel
theorem dc_X5_bar_41 : decode (AM.bytes M_X5_bar) 41 = .ok (.invokevirtual 51, 3) := by decide +kernel
theorem dc_X5_bar_44 : decode (AM.bytes M_X5_bar) 44 = .ok (.ireturn, 1) := by decide +kernel
set_option maxRecDepth 100000 in
set_option maxHeartbeats 4000000 in
theorem s_5barB {E : AE} (d : Nat) (v : Nat) {nv : Nat} {nc : Nat} {nr : Nat} {ne : Nat} {q : Nat}  {o0 a0 t0 p0 u0 l0 : List AC} {z sa ro te fr to un ga pi be : Nat → Int32} {bm en sta sv ln th : Int32} {hh : Int64} (hZ : ZI z nv nc nr ne) (hv : v < nv) (hln : ln = nI q) (hq : q ≤ 60) (hlt : F_5read q te fr to un < nI q) : CT E M_X5_bar (d + 4) [.ref 16384, .int (nI (v))] (hp o0 a0 t0 p0 (mo z sa ro te fr to un ga pi be bm en sta sv ln th hh) u0 l0) (.inl (some (.int (F_5barB)))) (hp o0 a0 t0 p0 (mo z sa ro te (F_5barB_fr q te fr to un) (F_5barB_to q te fr to un) (F_5barB_un q te fr to un) ga pi be bm (F_5barB_en q te fr to un) (F_5barB_sta q te fr to un) sv ln F_5barB_th hh) u0 l0) 0 0 := by
  obtain ⟨⟨hnv, h12⟩, ⟨hnc, h4⟩, ⟨hnr, h3⟩, ⟨hne, h60⟩, hLV⟩ := id hZ
  refine CT.of (L := [some (.ref 16384), some (.int (nI (v))), none, none]) rfl rfl ?_
  refine AR.run g_X5_bar_0_5 7 [some (.ref 16384), some (.int (nI (v))), none, none] [.int (nI (v)), .ref 16384] (hp o0 a0 t0 p0 (mo z sa ro te fr to un ga pi be bm en sta sv ln (nI (0)) hh) u0 l0) [] rfl trivial ?_
  refine AR.callV1 (16384) [.int (nI (v))] [] lk_5_85 dc_X5_bar_7 rfl rfl (CT.ret (s_isVolume _ (nI (v)) hZ.1.1) (wiV_t (by omega) (by omega))) (by first | rfl | (simp only [nI_add, pk_mul]; first | done | rfl)) rfl ?_
  refine AR.neN (tgt := 19) (a := 1) dc_X5_bar_10 (by decide) (by first | rfl | (simp only [nI_add, pk_mul]; first | done | rfl)) (by omega) (fun c10_1 => ?_) (fun c10_1 => absurd c10_1 (by omega))
  refine AR.run g_X5_bar_19_1 20 [some (.ref 16384), some (.int (nI (v))), none, none] [.ref 16384] _ [] rfl trivial ?_
  refine AR.callV1 (16384) [] [] lk_5_143 dc_X5_bar_20 rfl rfl (s_5read _  (by assumption) (by omega)) (by first | rfl | (simp only [nI_add, pk_mul]; first | done | rfl)) rfl ?_
  refine AR.run g_X5_bar_23_2 27 [some (.ref 16384), some (.int (nI (v))), none, none] [.int (ln), .int (F_5read q te fr to un)] _ [] rfl trivial ?_
  refine AR.top hln ?_
  refine AR.lt2 (tgt := 39) dc_X5_bar_27 (by decide) (fun c27_2 => ?_) (fun c27_2 => absurd c27_2 (fun q9 => q9 hlt))
  refine AR.run g_X5_bar_39_2 41 [some (.ref 16384), some (.int (nI (v))), none, none] [.int (nI (2)), .ref 16384] _ [] rfl trivial ?_
  refine AR.callV1 (16384) [.int (nI (2))] [] lk_5_51 dc_X5_bar_41 rfl rfl (s_fails _ (nI (2)) ) (by first | rfl | (simp only [nI_add, pk_mul]; first | done | rfl)) rfl ?_
  have e3_0 : F_5barB = (nI (0)) := by rw [F_5barB]
  have e3_1 : F_5barB_fr q te fr to un = (F_5read_fr q te fr to un) := by rw [F_5barB_fr]
  have e3_2 : F_5barB_to q te fr to un = (F_5read_to q te fr to un) := by rw [F_5barB_to]
  have e3_3 : F_5barB_un q te fr to un = (F_5read_un q te fr to un) := by rw [F_5barB_un]
  have e3_4 : F_5barB_en q te fr to un = (F_5read_en q te fr to un) := by rw [F_5barB_en]
  have e3_5 : F_5barB_sta q te fr to un = (F_5read_sta q te fr to un) := by rw [F_5barB_sta]
  have e3_6 : F_5barB_th = (nI (2)) := by rw [F_5barB_th]
  exact AR.retI dc_X5_bar_44 rfl e3_0.symm (by rw [e3_1, e3_2, e3_3, e3_4, e3_5, e3_6])
def F_5barC : Int32 := (nI (0))
theorem F_5barC_01 : F_5barC  = nI 0 ∨ F_5barC  = nI 1 := by
  unfold F_5barC
  (repeat' split) <;> first | exact Or.inl rfl | exact Or.inr rfl | exact wi01 _ _ _
def F_5barC_fr (q : Nat) (te : Nat → Int32) (fr : Nat → Int32) (to : Nat → Int32) (un : Nat → Int32) : Nat → Int32 := (F_5read_fr q te fr to un)
def F_5barC_to (q : Nat) (te : Nat → Int32) (fr : Nat → Int32) (to : Nat → Int32) (un : Nat → Int32) : Nat → Int32 := (F_5read_to q te fr to un)
def F_5barC_un (q : Nat) (te : Nat → Int32) (fr : Nat → Int32) (to : Nat → Int32) (un : Nat → Int32) : Nat → Int32 := (F_5read_un q te fr to un)
def F_5barC_en (q : Nat) (te : Nat → Int32) (fr : Nat → Int32) (to : Nat → Int32) (un : Nat → Int32) : Int32 := (F_5read_en q te fr to un)
def F_5barC_sta (q : Nat) (te : Nat → Int32) (fr : Nat → Int32) (to : Nat → Int32) (un : Nat → Int32) : Int32 := (F_5read_sta q te fr to un)
def F_5barC_th : Int32 := (nI (2))
theorem g_X5_bar_30_3 : ab_oks M_X5_bar [(30, .aload_n 0, 1, 0, 0, 0, .null), (31, .getfield 121, 3, 5, 12, 948, .null), (34, .bipush 10, 2, 0, 0, 0, .int (nI (10)))] = true := by decide +kernel
theorem dc_X5_bar_36 : decode (AM.bytes M_X5_bar) 36 = .ok (.if_icmp .eq 9, 3) := by decide +kernel
set_option maxRecDepth 100000 in
set_option maxHeartbeats 4000000 in
theorem s_5barC {E : AE} (d : Nat) (v : Nat) {nv : Nat} {nc : Nat} {nr : Nat} {ne : Nat} {q : Nat}  {o0 a0 t0 p0 u0 l0 : List AC} {z sa ro te fr to un ga pi be : Nat → Int32} {bm en sta sv ln th : Int32} {hh : Int64} (hZ : ZI z nv nc nr ne) (hv : v < nv) (hln : ln = nI q) (hq : q ≤ 60) (hnl : ¬ F_5read q te fr to un < nI q) (hst : ¬ F_5read_sta q te fr to un = nI 10) : CT E M_X5_bar (d + 4) [.ref 16384, .int (nI (v))] (hp o0 a0 t0 p0 (mo z sa ro te fr to un ga pi be bm en sta sv ln th hh) u0 l0) (.inl (some (.int (F_5barC)))) (hp o0 a0 t0 p0 (mo z sa ro te (F_5barC_fr q te fr to un) (F_5barC_to q te fr to un) (F_5barC_un q te fr to un) ga pi be bm (F_5barC_en q te fr to un) (F_5barC_sta q te fr to un) sv ln F_5barC_th hh) u0 l0) 0 0 := by
  obtain ⟨⟨hnv, h12⟩, ⟨hnc, h4⟩, ⟨hnr, h3⟩, ⟨hne, h60⟩, hLV⟩ := id hZ
  refine CT.of (L := [some (.ref 16384), some (.int (nI (v))), none, none]) rfl rfl ?_
  refine AR.run g_X5_bar_0_5 7 [some (.ref 16384), some (.int (nI (v))), none, none] [.int (nI (v)), .ref 16384] (hp o0 a0 t0 p0 (mo z sa ro te fr to un ga pi be bm en sta sv ln (nI (0)) hh) u0 l0) [] rfl trivial ?_
  refine AR.callV1 (16384) [.int (nI (v))] [] lk_5_85 dc_X5_bar_7 rfl rfl (CT.ret (s_isVolume _ (nI (v)) hZ.1.1) (wiV_t (by omega) (by omega))) (by first | rfl | (simp only [nI_add, pk_mul]; first | done | rfl)) rfl ?_
  refine AR.neN (tgt := 19) (a := 1) dc_X5_bar_10 (by decide) (by first | rfl | (simp only [nI_add, pk_mul]; first | done | rfl)) (by omega) (fun c10_1 => ?_) (fun c10_1 => absurd c10_1 (by omega))
  refine AR.run g_X5_bar_19_1 20 [some (.ref 16384), some (.int (nI (v))), none, none] [.ref 16384] _ [] rfl trivial ?_
  refine AR.callV1 (16384) [] [] lk_5_143 dc_X5_bar_20 rfl rfl (s_5read _  (by assumption) (by omega)) (by first | rfl | (simp only [nI_add, pk_mul]; first | done | rfl)) rfl ?_
  refine AR.run g_X5_bar_23_2 27 [some (.ref 16384), some (.int (nI (v))), none, none] [.int (ln), .int (F_5read q te fr to un)] _ [] rfl trivial ?_
  refine AR.top hln ?_
  refine AR.lt2 (tgt := 39) dc_X5_bar_27 (by decide) (fun c27_2 => absurd c27_2 hnl) (fun c27_2 => ?_)
  refine AR.run g_X5_bar_30_3 36 [some (.ref 16384), some (.int (nI (v))), none, none] [.int (nI (10)), .int (F_5read_sta q te fr to un)] _ [] rfl trivial ?_
  refine AR.eq2 (tgt := 45) dc_X5_bar_36 (by decide) (fun c36_3 => absurd c36_3 hst) (fun c36_3 => ?_)
  refine AR.run g_X5_bar_39_2 41 [some (.ref 16384), some (.int (nI (v))), none, none] [.int (nI (2)), .ref 16384] _ [] rfl trivial ?_
  refine AR.callV1 (16384) [.int (nI (2))] [] lk_5_51 dc_X5_bar_41 rfl rfl (s_fails _ (nI (2)) ) (by first | rfl | (simp only [nI_add, pk_mul]; first | done | rfl)) rfl ?_
  have e4_0 : F_5barC = (nI (0)) := by rw [F_5barC]
  have e4_1 : F_5barC_fr q te fr to un = (F_5read_fr q te fr to un) := by rw [F_5barC_fr]
  have e4_2 : F_5barC_to q te fr to un = (F_5read_to q te fr to un) := by rw [F_5barC_to]
  have e4_3 : F_5barC_un q te fr to un = (F_5read_un q te fr to un) := by rw [F_5barC_un]
  have e4_4 : F_5barC_en q te fr to un = (F_5read_en q te fr to un) := by rw [F_5barC_en]
  have e4_5 : F_5barC_sta q te fr to un = (F_5read_sta q te fr to un) := by rw [F_5barC_sta]
  have e4_6 : F_5barC_th = (nI (2)) := by rw [F_5barC_th]
  exact AR.retI dc_X5_bar_44 rfl e4_0.symm (by rw [e4_1, e4_2, e4_3, e4_4, e4_5, e4_6])
def F_5barE : Int32 := (nI (0))
theorem F_5barE_01 : F_5barE  = nI 0 ∨ F_5barE  = nI 1 := by
  unfold F_5barE
  (repeat' split) <;> first | exact Or.inl rfl | exact Or.inr rfl | exact wi01 _ _ _
def F_5barE_fr (q : Nat) (te : Nat → Int32) (fr : Nat → Int32) (to : Nat → Int32) (un : Nat → Int32) : Nat → Int32 := (F_5read_fr q te fr to un)
def F_5barE_to (q : Nat) (te : Nat → Int32) (fr : Nat → Int32) (to : Nat → Int32) (un : Nat → Int32) : Nat → Int32 := (F_5read_to q te fr to un)
def F_5barE_un (q : Nat) (te : Nat → Int32) (fr : Nat → Int32) (to : Nat → Int32) (un : Nat → Int32) : Nat → Int32 := (F_5read_un q te fr to un)
def F_5barE_en (q : Nat) (te : Nat → Int32) (fr : Nat → Int32) (to : Nat → Int32) (un : Nat → Int32) : Int32 := (F_5read_en q te fr to un)
def F_5barE_sta (q : Nat) (te : Nat → Int32) (fr : Nat → Int32) (to : Nat → Int32) (un : Nat → Int32) : Int32 := (F_5read_sta q te fr to un)
def F_5barE_th : Int32 := (nI (3))
theorem g_X5_bar_45_2 : ab_oks M_X5_bar [(45, .iconst 0, 1, 0, 0, 0, .int (nI (0))), (46, .istore_n 2, 1, 2, 0, 0, .null)] = true := by decide +kernel
theorem g_X5_bar_47_3 : ab_oks M_X5_bar [(47, .iload_n 2, 1, 2, 0, 0, .null), (48, .aload_n 0, 1, 0, 0, 0, .null), (49, .getfield 124, 3, 5, 11, 947, .null)] = true := by decide +kernel
theorem dc_X5_bar_52 : decode (AM.bytes M_X5_bar) 52 = .ok (.if_icmp .gt 29, 3) := by decide +kernel
theorem g_X5_bar_55_2 : ab_oks M_X5_bar [(55, .aload_n 0, 1, 0, 0, 0, .null), (56, .iload_n 2, 1, 2, 0, 0, .null)] = true := by decide +kernel
theorem lk_5_146 : ab_lkV "LeafCradlesModel" 146 M_X5_lastOf 1 [1151, 1153, 59, 97, 1154] = true := by decide +kernel
theorem dc_X5_bar_57 : decode (AM.bytes M_X5_bar) 57 = .ok (.invokevirtual 146, 3) := by decide +kernel
theorem g_X5_bar_60_3 : ab_oks M_X5_bar [(60, .aload_n 0, 1, 0, 0, 0, .null), (61, .iload_n 1, 1, 1, 0, 0, .null), (62, .iconst 2, 1, 0, 0, 0, .int (nI (2)))] = true := by decide +kernel
theorem dc_X5_bar_63 : decode (AM.bytes M_X5_bar) 63 = .ok (.invokevirtual 62, 3) := by decide +kernel
theorem dc_X5_bar_66 : decode (AM.bytes M_X5_bar) 66 = .ok (.if_icmp .lt 9, 3) := by decide +kernel
theorem g_X5_bar_75_2 : ab_oks M_X5_bar [(75, .iinc 2 1, 3, 2, 0, 0, .int (nI (1))), (78, .goto (-31), 3, 47, 0, 0, .null)] = true := by decide +kernel
theorem g_X5_bar_69_2 : ab_oks M_X5_bar [(69, .aload_n 0, 1, 0, 0, 0, .null), (70, .iconst 3, 1, 0, 0, 0, .int (nI (3)))] = true := by decide +kernel
theorem dc_X5_bar_71 : decode (AM.bytes M_X5_bar) 71 = .ok (.invokevirtual 51, 3) := by decide +kernel
theorem dc_X5_bar_74 : decode (AM.bytes M_X5_bar) 74 = .ok (.ireturn, 1) := by decide +kernel
set_option maxRecDepth 100000 in
set_option maxHeartbeats 4000000 in
theorem s_5barE {E : AE} (d : Nat) (v : Nat) {nv : Nat} {nc : Nat} {nr : Nat} {ne : Nat} {q : Nat} {p : Nat} {B : Nat → Nat} {e0 : Nat}  {o0 a0 t0 p0 u0 l0 : List AC} {z sa ro te fr to un ga pi be : Nat → Int32} {bm en sta sv ln th : Int32} {hh : Int64} (hZ : ZI z nv nc nr ne) (hv : v < nv) (hln : ln = nI q) (hq : q ≤ 60) (hnl : ¬ F_5read q te fr to un < nI q) (hst : F_5read_sta q te fr to un = nI 10) (hen : F_5read_en q te fr to un = nI p) (hp10 : p < 10) (hB : ∀ k, k ≤ p → F_5lastOf k (F_5read_fr q te fr to un) (F_5read_to q te fr to un) = nI (B k)) (he : e0 ≤ p) (hBl : ∀ k, k < e0 → B k < lv z v) (hBe : lv z v ≤ B e0) (hBx : B e0 < 40) : CT E M_X5_bar (d + 4) [.ref 16384, .int (nI (v))] (hp o0 a0 t0 p0 (mo z sa ro te fr to un ga pi be bm en sta sv ln th hh) u0 l0) (.inl (some (.int (F_5barE)))) (hp o0 a0 t0 p0 (mo z sa ro te (F_5barE_fr q te fr to un) (F_5barE_to q te fr to un) (F_5barE_un q te fr to un) ga pi be bm (F_5barE_en q te fr to un) (F_5barE_sta q te fr to un) sv ln F_5barE_th hh) u0 l0) 0 0 := by
  obtain ⟨⟨hnv, h12⟩, ⟨hnc, h4⟩, ⟨hnr, h3⟩, ⟨hne, h60⟩, hLV⟩ := id hZ
  have h40 := (hLV v hv).2
  have hl := (hLV v hv).1
  refine CT.of (L := [some (.ref 16384), some (.int (nI (v))), none, none]) rfl rfl ?_
  refine AR.run g_X5_bar_0_5 7 [some (.ref 16384), some (.int (nI (v))), none, none] [.int (nI (v)), .ref 16384] (hp o0 a0 t0 p0 (mo z sa ro te fr to un ga pi be bm en sta sv ln (nI (0)) hh) u0 l0) [] rfl trivial ?_
  refine AR.callV1 (16384) [.int (nI (v))] [] lk_5_85 dc_X5_bar_7 rfl rfl (CT.ret (s_isVolume _ (nI (v)) hZ.1.1) (wiV_t (by omega) (by omega))) (by first | rfl | (simp only [nI_add, pk_mul]; first | done | rfl)) rfl ?_
  refine AR.neN (tgt := 19) (a := 1) dc_X5_bar_10 (by decide) (by first | rfl | (simp only [nI_add, pk_mul]; first | done | rfl)) (by omega) (fun c10_1 => ?_) (fun c10_1 => absurd c10_1 (by omega))
  refine AR.run g_X5_bar_19_1 20 [some (.ref 16384), some (.int (nI (v))), none, none] [.ref 16384] _ [] rfl trivial ?_
  refine AR.callV1 (16384) [] [] lk_5_143 dc_X5_bar_20 rfl rfl (s_5read _  (by assumption) (by omega)) (by first | rfl | (simp only [nI_add, pk_mul]; first | done | rfl)) rfl ?_
  refine AR.run g_X5_bar_23_2 27 [some (.ref 16384), some (.int (nI (v))), none, none] [.int (ln), .int (F_5read q te fr to un)] _ [] rfl trivial ?_
  refine AR.top hln ?_
  refine AR.lt2 (tgt := 39) dc_X5_bar_27 (by decide) (fun c27_2 => absurd c27_2 hnl) (fun c27_2 => ?_)
  refine AR.run g_X5_bar_30_3 36 [some (.ref 16384), some (.int (nI (v))), none, none] [.int (nI (10)), .int (F_5read_sta q te fr to un)] _ [] rfl trivial ?_
  refine AR.eq2 (tgt := 45) dc_X5_bar_36 (by decide) (fun c36_3 => ?_) (fun c36_3 => absurd c36_3 (fun q9 => q9 hst))
  refine AR.run g_X5_bar_45_2 47 [some (.ref 16384), some (.int (nI (v))), some (.int (nI (0))), none] [] _ [] rfl trivial ?_
  refine AR.cast (L' := [some (.ref 16384), some (.int (nI (v))), some (.int (nI (0))), none]) rfl rfl rfl (AR.loopN e0 (fun j47 => [some (.ref 16384), some (.int (nI (v))), some (.int (nI (j47))), none]) (fun j47 => (hp o0 a0 t0 p0 (mo z sa ro te (F_5read_fr q te fr to un) (F_5read_to q te fr to un) (F_5read_un q te fr to un) ga pi be bm (F_5read_en q te fr to un) (F_5read_sta q te fr to un) sv ln (nI (0)) hh) u0 l0)) (fun j47 => True) (fun j47 hj47 hI47 ih47 => ?_) (fun hI47 => ?_) 0 (by omega) (by first | trivial | omega))
  · have hbl := hBl j47 (by omega)
    refine AR.run g_X5_bar_47_3 52 [some (.ref 16384), some (.int (nI (v))), some (.int (nI (j47))), none] [.int (F_5read_en q te fr to un), .int (nI (j47))] _ [] rfl trivial ?_
    refine AR.top hen ?_
    refine AR.gt2N (tgt := 81) (a := j47) (b := p) dc_X5_bar_52 (by decide) (by first | rfl | (simp only [nI_add, pk_mul]; first | done | rfl)) (by first | rfl | (simp only [nI_add, pk_mul]; first | done | rfl)) (by omega) (by omega) (fun c52_4 => absurd c52_4 (by omega)) (fun c52_4 => ?_)
    refine AR.run g_X5_bar_55_2 57 [some (.ref 16384), some (.int (nI (v))), some (.int (nI (j47))), none] [.int (nI (j47)), .ref 16384] _ [] rfl trivial ?_
    refine AR.callV1 (16384) [.int (nI (j47))] [] lk_5_146 dc_X5_bar_57 rfl rfl (s_5lastOf _ j47 (by omega)) (by first | rfl | (simp only [nI_add, pk_mul]; first | done | rfl)) rfl ?_
    refine AR.top (hB j47 (by omega)) ?_
    refine AR.run g_X5_bar_60_3 63 [some (.ref 16384), some (.int (nI (v))), some (.int (nI (j47))), none] [.int (nI (2)), .int (nI (v)), .ref 16384, .int (nI ((B j47)))] _ [] rfl trivial ?_
    refine AR.callV1 (16384) [.int (nI (v)), .int (nI (2))] [.int (nI ((B j47)))] lk_5_62 dc_X5_bar_63 rfl rfl (s_ofVolume _ v 2 (by omega) (by omega)) (by first | rfl | (simp only [nI_add, pk_mul]; first | done | rfl)) rfl ?_
    refine AR.top hl ?_
    refine AR.lt2N (tgt := 75) (a := (B j47)) (b := (lv z v)) dc_X5_bar_66 (by decide) (by first | rfl | (simp only [nI_add, pk_mul]; first | done | rfl)) (by first | rfl | (simp only [nI_add, pk_mul]; first | done | rfl)) (by omega) (by omega) (fun c66_5 => ?_) (fun c66_5 => absurd c66_5 (by omega))
    refine AR.run g_X5_bar_75_2 47 [some (.ref 16384), some (.int (nI (v))), some (.int ((nI (j47)) + (nI (1)))), none] [] _ [] rfl trivial ?_
    exact AR.cast (L' := [some (.ref 16384), some (.int (nI (v))), some (.int (nI (j47 + 1))), none]) (by first | rfl | (rw [nI_add]; done) | (rw [nI_add]; rfl)) rfl rfl (ih47 (by first | trivial | omega))
  · refine AR.run g_X5_bar_47_3 52 [some (.ref 16384), some (.int (nI (v))), some (.int (nI (e0))), none] [.int (F_5read_en q te fr to un), .int (nI (e0))] _ [] rfl trivial ?_
    refine AR.top hen ?_
    refine AR.gt2N (tgt := 81) (a := e0) (b := p) dc_X5_bar_52 (by decide) (by first | rfl | (simp only [nI_add, pk_mul]; first | done | rfl)) (by first | rfl | (simp only [nI_add, pk_mul]; first | done | rfl)) (by omega) (by omega) (fun c52_7 => absurd c52_7 (by omega)) (fun c52_7 => ?_)
    refine AR.run g_X5_bar_55_2 57 [some (.ref 16384), some (.int (nI (v))), some (.int (nI (e0))), none] [.int (nI (e0)), .ref 16384] _ [] rfl trivial ?_
    refine AR.callV1 (16384) [.int (nI (e0))] [] lk_5_146 dc_X5_bar_57 rfl rfl (s_5lastOf _ e0 (by omega)) (by first | rfl | (simp only [nI_add, pk_mul]; first | done | rfl)) rfl ?_
    refine AR.top (hB e0 (by omega)) ?_
    refine AR.run g_X5_bar_60_3 63 [some (.ref 16384), some (.int (nI (v))), some (.int (nI (e0))), none] [.int (nI (2)), .int (nI (v)), .ref 16384, .int (nI ((B e0)))] _ [] rfl trivial ?_
    refine AR.callV1 (16384) [.int (nI (v)), .int (nI (2))] [.int (nI ((B e0)))] lk_5_62 dc_X5_bar_63 rfl rfl (s_ofVolume _ v 2 (by omega) (by omega)) (by first | rfl | (simp only [nI_add, pk_mul]; first | done | rfl)) rfl ?_
    refine AR.top hl ?_
    refine AR.lt2N (tgt := 75) (a := (B e0)) (b := (lv z v)) dc_X5_bar_66 (by decide) (by first | rfl | (simp only [nI_add, pk_mul]; first | done | rfl)) (by first | rfl | (simp only [nI_add, pk_mul]; first | done | rfl)) (by omega) (by omega) (fun c66_8 => absurd c66_8 (by omega)) (fun c66_8 => ?_)
    refine AR.run g_X5_bar_69_2 71 [some (.ref 16384), some (.int (nI (v))), some (.int (nI (e0))), none] [.int (nI (3)), .ref 16384] _ [] rfl trivial ?_
    refine AR.callV1 (16384) [.int (nI (3))] [] lk_5_51 dc_X5_bar_71 rfl rfl (s_fails _ (nI (3)) ) (by first | rfl | (simp only [nI_add, pk_mul]; first | done | rfl)) rfl ?_
    have e9_0 : F_5barE = (nI (0)) := by rw [F_5barE]
    have e9_1 : F_5barE_fr q te fr to un = (F_5read_fr q te fr to un) := by rw [F_5barE_fr]
    have e9_2 : F_5barE_to q te fr to un = (F_5read_to q te fr to un) := by rw [F_5barE_to]
    have e9_3 : F_5barE_un q te fr to un = (F_5read_un q te fr to un) := by rw [F_5barE_un]
    have e9_4 : F_5barE_en q te fr to un = (F_5read_en q te fr to un) := by rw [F_5barE_en]
    have e9_5 : F_5barE_sta q te fr to un = (F_5read_sta q te fr to un) := by rw [F_5barE_sta]
    have e9_6 : F_5barE_th = (nI (3)) := by rw [F_5barE_th]
    exact AR.retI dc_X5_bar_74 rfl e9_0.symm (by rw [e9_1, e9_2, e9_3, e9_4, e9_5, e9_6])
def B_5bar_102 (v : Nat) (q : Nat) (A : Nat → Nat) (te : Nat → Int32) (fr : Nat → Int32) (to : Nat → Int32) (un : Nat → Int32) (j87 : Nat) (j102 : Nat) (y102_z : Nat → Int32) : (Nat → Int32) := (upd y102_z ((423 + (3 * ((40 * v) + (A j87 + j102)))) + 2) ((F_5read_un q te fr to un) j87))
def L_5bar_102 (v : Nat) (q : Nat) (A : Nat → Nat) (te : Nat → Int32) (fr : Nat → Int32) (to : Nat → Int32) (un : Nat → Int32) (j87 : Nat) (y87_z : Nat → Int32) : Nat → (Nat → Int32)
  | 0 => y87_z
  | j + 1 => B_5bar_102 v q A te fr to un j87 j (L_5bar_102 v q A te fr to un j87 y87_z  j)
def B_5bar_87 (v : Nat) (q : Nat) (A : Nat → Nat) (B : Nat → Nat) (te : Nat → Int32) (fr : Nat → Int32) (to : Nat → Int32) (un : Nat → Int32) (j87 : Nat) (y87_z : Nat → Int32) : (Nat → Int32) := (L_5bar_102 v q A te fr to un j87 y87_z (B j87 + 1 - A j87))
def L_5bar_87 (v : Nat) (q : Nat) (A : Nat → Nat) (B : Nat → Nat) (z : Nat → Int32) (te : Nat → Int32) (fr : Nat → Int32) (to : Nat → Int32) (un : Nat → Int32) : Nat → (Nat → Int32)
  | 0 => z
  | j + 1 => B_5bar_87 v q A B te fr to un j (L_5bar_87 v q A B z te fr to un  j)
theorem ZI_barI {v q e : Nat} {A : Nat → Nat} {te fr to un z : Nat → Int32} {nv nc nr ne : Nat} (hZ : ZI z nv nc nr ne) : ∀ j : Nat, ZI (L_5bar_102 v q A te fr to un e z j) nv nc nr ne
  | 0 => hZ
  | j + 1 => ZI_upd ⟨by omega, by omega, by omega, by omega, fun v9 h9 => by omega⟩ (ZI_barI hZ j)
theorem ZI_bar {v q : Nat} {A B : Nat → Nat} {te fr to un z : Nat → Int32} {nv nc nr ne : Nat} (hZ : ZI z nv nc nr ne) : ∀ j : Nat, ZI (L_5bar_87 v q A B z te fr to un j) nv nc nr ne
  | 0 => hZ
  | j + 1 => ZI_barI (ZI_bar hZ j) (B j + 1 - A j)
def F_5bar (v : Nat) (q : Nat) (p : Nat) (A : Nat → Nat) (B : Nat → Nat) (z : Nat → Int32) (te : Nat → Int32) (fr : Nat → Int32) (to : Nat → Int32) (un : Nat → Int32) : Int32 := (L_5barred_4 v (L_5bar_87 v q A B z te fr to un (p + 1)) (lv (L_5bar_87 v q A B z te fr to un (p + 1)) v))
def F_5bar_z (v : Nat) (q : Nat) (p : Nat) (A : Nat → Nat) (B : Nat → Nat) (z : Nat → Int32) (te : Nat → Int32) (fr : Nat → Int32) (to : Nat → Int32) (un : Nat → Int32) : Nat → Int32 := (L_5bar_87 v q A B z te fr to un (p + 1))
def F_5bar_ro (s : Nat) (z : Nat → Int32) (ro : Nat → Int32) : Nat → Int32 := (svR z ro s)
def F_5bar_fr (q : Nat) (te : Nat → Int32) (fr : Nat → Int32) (to : Nat → Int32) (un : Nat → Int32) : Nat → Int32 := (F_5read_fr q te fr to un)
def F_5bar_to (q : Nat) (te : Nat → Int32) (fr : Nat → Int32) (to : Nat → Int32) (un : Nat → Int32) : Nat → Int32 := (F_5read_to q te fr to un)
def F_5bar_un (q : Nat) (te : Nat → Int32) (fr : Nat → Int32) (to : Nat → Int32) (un : Nat → Int32) : Nat → Int32 := (F_5read_un q te fr to un)
def F_5bar_en (q : Nat) (te : Nat → Int32) (fr : Nat → Int32) (to : Nat → Int32) (un : Nat → Int32) : Int32 := (F_5read_en q te fr to un)
def F_5bar_sta (q : Nat) (te : Nat → Int32) (fr : Nat → Int32) (to : Nat → Int32) (un : Nat → Int32) : Int32 := (F_5read_sta q te fr to un)
def F_5bar_sv (s : Nat) : Int32 := (nI (svN s))
def F_5bar_ln : Int32 := (nI (0))
def F_5bar_th : Int32 := (nI (0))
theorem g_X5_bar_81_1 : ab_oks M_X5_bar [(81, .aload_n 0, 1, 0, 0, 0, .null)] = true := by decide +kernel
theorem dc_X5_bar_82 : decode (AM.bytes M_X5_bar) 82 = .ok (.invokevirtual 55, 3) := by decide +kernel
theorem g_X5_bar_85_2 : ab_oks M_X5_bar [(85, .iconst 0, 1, 0, 0, 0, .int (nI (0))), (86, .istore_n 2, 1, 2, 0, 0, .null)] = true := by decide +kernel
theorem g_X5_bar_87_3 : ab_oks M_X5_bar [(87, .iload_n 2, 1, 2, 0, 0, .null), (88, .aload_n 0, 1, 0, 0, 0, .null), (89, .getfield 124, 3, 5, 11, 947, .null)] = true := by decide +kernel
theorem dc_X5_bar_92 : decode (AM.bytes M_X5_bar) 92 = .ok (.if_icmp .gt 56, 3) := by decide +kernel
theorem g_X5_bar_95_3 : ab_oks M_X5_bar [(95, .aload_n 0, 1, 0, 0, 0, .null), (96, .getfield 22, 3, 5, 4, 940, .null), (99, .iload_n 2, 1, 2, 0, 0, .null)] = true := by decide +kernel
theorem ok_X5_bar_100 : ab_ok M_X5_bar (100, .iaload, 1, 0, 0, 0, .null) = true := by decide +kernel
theorem g_X5_bar_101_1 : ab_oks M_X5_bar [(101, .istore_n 3, 1, 3, 0, 0, .null)] = true := by decide +kernel
theorem g_X5_bar_102_3 : ab_oks M_X5_bar [(102, .iload_n 3, 1, 3, 0, 0, .null), (103, .aload_n 0, 1, 0, 0, 0, .null), (104, .iload_n 2, 1, 2, 0, 0, .null)] = true := by decide +kernel
theorem dc_X5_bar_105 : decode (AM.bytes M_X5_bar) 105 = .ok (.invokevirtual 146, 3) := by decide +kernel
theorem dc_X5_bar_108 : decode (AM.bytes M_X5_bar) 108 = .ok (.if_icmp .gt 34, 3) := by decide +kernel
theorem g_X5_bar_111_16 : ab_oks M_X5_bar [(111, .aload_n 0, 1, 0, 0, 0, .null), (112, .getfield 7, 3, 5, 0, 936, .null), (115, .sipush 423, 3, 0, 0, 0, .int (nI (423))), (118, .iconst 3, 1, 0, 0, 0, .int (nI (3))), (119, .bipush 40, 2, 0, 0, 0, .int (nI (40))), (121, .iload_n 1, 1, 1, 0, 0, .null), (122, .imul, 1, 0, 0, 0, .null), (123, .iload_n 3, 1, 3, 0, 0, .null), (124, .iadd, 1, 0, 0, 0, .null), (125, .imul, 1, 0, 0, 0, .null), (126, .iadd, 1, 0, 0, 0, .null), (127, .iconst 2, 1, 0, 0, 0, .int (nI (2))), (128, .iadd, 1, 0, 0, 0, .null), (129, .aload_n 0, 1, 0, 0, 0, .null), (130, .getfield 28, 3, 5, 6, 942, .null), (133, .iload_n 2, 1, 2, 0, 0, .null)] = true := by decide +kernel
theorem ok_X5_bar_134 : ab_ok M_X5_bar (134, .iaload, 1, 0, 0, 0, .null) = true := by decide +kernel
theorem ok_X5_bar_135 : ab_ok M_X5_bar (135, .iastore, 1, 0, 0, 0, .null) = true := by decide +kernel
theorem g_X5_bar_136_2 : ab_oks M_X5_bar [(136, .iinc 3 1, 3, 3, 0, 0, .int (nI (1))), (139, .goto (-37), 3, 102, 0, 0, .null)] = true := by decide +kernel
theorem g_X5_bar_142_2 : ab_oks M_X5_bar [(142, .iinc 2 1, 3, 2, 0, 0, .int (nI (1))), (145, .goto (-58), 3, 87, 0, 0, .null)] = true := by decide +kernel
theorem g_X5_bar_148_5 : ab_oks M_X5_bar [(148, .aload_n 0, 1, 0, 0, 0, .null), (149, .iconst 0, 1, 0, 0, 0, .int (nI (0))), (150, .putfield 118, 3, 5, 14, 950, .null), (153, .aload_n 0, 1, 0, 0, 0, .null), (154, .iload_n 1, 1, 1, 0, 0, .null)] = true := by decide +kernel
theorem lk_5_149 : ab_lkV "LeafCradlesModel" 149 M_X5_barred 1 [1155, 1157, 60, 97, 1158] = true := by decide +kernel
theorem dc_X5_bar_155 : decode (AM.bytes M_X5_bar) 155 = .ok (.invokevirtual 149, 3) := by decide +kernel
theorem dc_X5_bar_158 : decode (AM.bytes M_X5_bar) 158 = .ok (.ireturn, 1) := by decide +kernel
set_option maxRecDepth 100000 in
set_option maxHeartbeats 4000000 in
theorem s_5bar {E : AE} (d : Nat) (v : Nat) {nv : Nat} {nc : Nat} {nr : Nat} {ne : Nat} {s : Nat} {q : Nat} {p : Nat} {A : Nat → Nat} {B : Nat → Nat}  {o0 a0 t0 p0 u0 l0 : List AC} {z sa ro te fr to un ga pi be : Nat → Int32} {bm en sta sv ln th : Int32} {hh : Int64} (hZ : ZI z nv nc nr ne) (hs : sv = nI s) (hs6 : s ≤ 6) (hv : v < nv) (hln : ln = nI q) (hq : q ≤ 60) (hnl : ¬ F_5read q te fr to un < nI q) (hst : F_5read_sta q te fr to un = nI 10) (hen : F_5read_en q te fr to un = nI p) (hp10 : p < 10) (hB : ∀ k, k ≤ p → F_5lastOf k (F_5read_fr q te fr to un) (F_5read_to q te fr to un) = nI (B k)) (hBl : ∀ k, k ≤ p → B k < lv z v) (hA : ∀ k, k ≤ p → (F_5read_fr q te fr to un) k = nI (A k)) (hAB : ∀ k, k ≤ p → A k ≤ B k ∧ B k < 40) : CT E M_X5_bar (d + 4) [.ref 16384, .int (nI (v))] (hp o0 a0 t0 p0 (mo z sa ro te fr to un ga pi be bm en sta sv ln th hh) u0 l0) (.inl (some (.int (F_5bar v q p A B z te fr to un)))) (hp o0 a0 t0 p0 (mo (F_5bar_z v q p A B z te fr to un) sa (F_5bar_ro s z ro) te (F_5bar_fr q te fr to un) (F_5bar_to q te fr to un) (F_5bar_un q te fr to un) ga pi be bm (F_5bar_en q te fr to un) (F_5bar_sta q te fr to un) (F_5bar_sv s) F_5bar_ln F_5bar_th hh) u0 l0) 0 0 := by
  obtain ⟨⟨hnv, h12⟩, ⟨hnc, h4⟩, ⟨hnr, h3⟩, ⟨hne, h60⟩, hLV⟩ := id hZ
  have h40 := (hLV v hv).2
  have hl := (hLV v hv).1
  refine CT.of (L := [some (.ref 16384), some (.int (nI (v))), none, none]) rfl rfl ?_
  refine AR.run g_X5_bar_0_5 7 [some (.ref 16384), some (.int (nI (v))), none, none] [.int (nI (v)), .ref 16384] (hp o0 a0 t0 p0 (mo z sa ro te fr to un ga pi be bm en sta sv ln (nI (0)) hh) u0 l0) [] rfl trivial ?_
  refine AR.callV1 (16384) [.int (nI (v))] [] lk_5_85 dc_X5_bar_7 rfl rfl (CT.ret (s_isVolume _ (nI (v)) hZ.1.1) (wiV_t (by omega) (by omega))) (by first | rfl | (simp only [nI_add, pk_mul]; first | done | rfl)) rfl ?_
  refine AR.neN (tgt := 19) (a := 1) dc_X5_bar_10 (by decide) (by first | rfl | (simp only [nI_add, pk_mul]; first | done | rfl)) (by omega) (fun c10_1 => ?_) (fun c10_1 => absurd c10_1 (by omega))
  refine AR.run g_X5_bar_19_1 20 [some (.ref 16384), some (.int (nI (v))), none, none] [.ref 16384] _ [] rfl trivial ?_
  refine AR.callV1 (16384) [] [] lk_5_143 dc_X5_bar_20 rfl rfl (s_5read _  (by assumption) (by omega)) (by first | rfl | (simp only [nI_add, pk_mul]; first | done | rfl)) rfl ?_
  refine AR.run g_X5_bar_23_2 27 [some (.ref 16384), some (.int (nI (v))), none, none] [.int (ln), .int (F_5read q te fr to un)] _ [] rfl trivial ?_
  refine AR.top hln ?_
  refine AR.lt2 (tgt := 39) dc_X5_bar_27 (by decide) (fun c27_2 => absurd c27_2 hnl) (fun c27_2 => ?_)
  refine AR.run g_X5_bar_30_3 36 [some (.ref 16384), some (.int (nI (v))), none, none] [.int (nI (10)), .int (F_5read_sta q te fr to un)] _ [] rfl trivial ?_
  refine AR.eq2 (tgt := 45) dc_X5_bar_36 (by decide) (fun c36_3 => ?_) (fun c36_3 => absurd c36_3 (fun q9 => q9 hst))
  refine AR.run g_X5_bar_45_2 47 [some (.ref 16384), some (.int (nI (v))), some (.int (nI (0))), none] [] _ [] rfl trivial ?_
  refine AR.cast (L' := [some (.ref 16384), some (.int (nI (v))), some (.int (nI (0))), none]) rfl rfl rfl (AR.loopN (p + 1) (fun j47 => [some (.ref 16384), some (.int (nI (v))), some (.int (nI (j47))), none]) (fun j47 => (hp o0 a0 t0 p0 (mo z sa ro te (F_5read_fr q te fr to un) (F_5read_to q te fr to un) (F_5read_un q te fr to un) ga pi be bm (F_5read_en q te fr to un) (F_5read_sta q te fr to un) sv ln (nI (0)) hh) u0 l0)) (fun j47 => True) (fun j47 hj47 hI47 ih47 => ?_) (fun hI47 => ?_) 0 (by omega) (by first | trivial | omega))
  · have hbl := hBl j47 (by omega)
    refine AR.run g_X5_bar_47_3 52 [some (.ref 16384), some (.int (nI (v))), some (.int (nI (j47))), none] [.int (F_5read_en q te fr to un), .int (nI (j47))] _ [] rfl trivial ?_
    refine AR.top hen ?_
    refine AR.gt2N (tgt := 81) (a := j47) (b := p) dc_X5_bar_52 (by decide) (by first | rfl | (simp only [nI_add, pk_mul]; first | done | rfl)) (by first | rfl | (simp only [nI_add, pk_mul]; first | done | rfl)) (by omega) (by omega) (fun c52_4 => absurd c52_4 (by omega)) (fun c52_4 => ?_)
    refine AR.run g_X5_bar_55_2 57 [some (.ref 16384), some (.int (nI (v))), some (.int (nI (j47))), none] [.int (nI (j47)), .ref 16384] _ [] rfl trivial ?_
    refine AR.callV1 (16384) [.int (nI (j47))] [] lk_5_146 dc_X5_bar_57 rfl rfl (s_5lastOf _ j47 (by omega)) (by first | rfl | (simp only [nI_add, pk_mul]; first | done | rfl)) rfl ?_
    refine AR.top (hB j47 (by omega)) ?_
    refine AR.run g_X5_bar_60_3 63 [some (.ref 16384), some (.int (nI (v))), some (.int (nI (j47))), none] [.int (nI (2)), .int (nI (v)), .ref 16384, .int (nI ((B j47)))] _ [] rfl trivial ?_
    refine AR.callV1 (16384) [.int (nI (v)), .int (nI (2))] [.int (nI ((B j47)))] lk_5_62 dc_X5_bar_63 rfl rfl (s_ofVolume _ v 2 (by omega) (by omega)) (by first | rfl | (simp only [nI_add, pk_mul]; first | done | rfl)) rfl ?_
    refine AR.top hl ?_
    refine AR.lt2N (tgt := 75) (a := (B j47)) (b := (lv z v)) dc_X5_bar_66 (by decide) (by first | rfl | (simp only [nI_add, pk_mul]; first | done | rfl)) (by first | rfl | (simp only [nI_add, pk_mul]; first | done | rfl)) (by omega) (by omega) (fun c66_5 => ?_) (fun c66_5 => absurd c66_5 (by omega))
    refine AR.run g_X5_bar_75_2 47 [some (.ref 16384), some (.int (nI (v))), some (.int ((nI (j47)) + (nI (1)))), none] [] _ [] rfl trivial ?_
    exact AR.cast (L' := [some (.ref 16384), some (.int (nI (v))), some (.int (nI (j47 + 1))), none]) (by first | rfl | (rw [nI_add]; done) | (rw [nI_add]; rfl)) rfl rfl (ih47 (by first | trivial | omega))
  · refine AR.run g_X5_bar_47_3 52 [some (.ref 16384), some (.int (nI (v))), some (.int (nI (p + 1))), none] [.int (F_5read_en q te fr to un), .int (nI (p + 1))] _ [] rfl trivial ?_
    refine AR.top hen ?_
    refine AR.gt2N (tgt := 81) (a := p + 1) (b := p) dc_X5_bar_52 (by decide) (by first | rfl | (simp only [nI_add, pk_mul]; first | done | rfl)) (by first | rfl | (simp only [nI_add, pk_mul]; first | done | rfl)) (by omega) (by omega) (fun c52_7 => ?_) (fun c52_7 => absurd c52_7 (by omega))
    refine AR.run g_X5_bar_81_1 82 [some (.ref 16384), some (.int (nI (v))), some (.int (nI (p + 1))), none] [.ref 16384] _ [] rfl trivial ?_
    refine AR.callV0 (16384) [] [] lk_5_55 dc_X5_bar_82 rfl rfl (s_5save _ (by assumption) (by omega)) (by first | rfl | (simp only [nI_add, pk_mul]; first | done | rfl)) rfl ?_
    refine AR.run g_X5_bar_85_2 87 [some (.ref 16384), some (.int (nI (v))), some (.int (nI (0))), none] [] _ [] rfl trivial ?_
    refine AR.cast (L' := [some (.ref 16384), some (.int (nI (v))), some (.int (nI (0))), none]) (by first | rfl | (rw [L_5bar_87])) rfl (by first | rfl | (rw [L_5bar_87])) (AR.loopN (p + 1) (fun j87 => [some (.ref 16384), some (.int (nI (v))), some (.int (nI (j87))), none]) (fun j87 => (hp o0 a0 t0 p0 (mo (L_5bar_87 v q A B z te fr to un j87) sa (svR z ro s) te (F_5read_fr q te fr to un) (F_5read_to q te fr to un) (F_5read_un q te fr to un) ga pi be bm (F_5read_en q te fr to un) (F_5read_sta q te fr to un) (nI (svN s)) ln (nI (0)) hh) u0 l0)) (fun j87 => True) (fun j87 hj87 hI87 ih87 => ?_) (fun hI87 => ?_) 0 (by omega) (by first | trivial | omega))
    · have hab := hAB j87 (by omega)
      have hA_7 : ZI (L_5bar_87 v q A B z te fr to un j87) nv nc nr ne := ZI_bar hZ j87
      refine AR.run g_X5_bar_87_3 92 [some (.ref 16384), some (.int (nI (v))), some (.int (nI (j87))), none] [.int (F_5read_en q te fr to un), .int (nI (j87))] _ [] rfl trivial ?_
      refine AR.top hen ?_
      refine AR.gt2N (tgt := 148) (a := j87) (b := p) dc_X5_bar_92 (by decide) (by first | rfl | (simp only [nI_add, pk_mul]; first | done | rfl)) (by first | rfl | (simp only [nI_add, pk_mul]; first | done | rfl)) (by omega) (by omega) (fun c92_8 => absurd c92_8 (by omega)) (fun c92_8 => ?_)
      refine AR.run g_X5_bar_95_3 100 [some (.ref 16384), some (.int (nI (v))), some (.int (nI (j87))), none] [.int (nI (j87)), .ref 16389] _ [] rfl trivial ?_
      refine AR.ald (n := 0) (e := j87) ok_X5_bar_100 (by first | rfl | (simp only [nI_add, pk_mul]; first | done | rfl)) rfl (by omega) (by first | decide | omega) ?_
      refine AR.top (hA j87 (by omega)) ?_
      refine AR.run g_X5_bar_101_1 102 [some (.ref 16384), some (.int (nI (v))), some (.int (nI (j87))), some (.int (nI ((A j87))))] [] _ [] rfl trivial ?_
      refine AR.cast (L' := [some (.ref 16384), some (.int (nI (v))), some (.int (nI (j87))), some (.int (nI ((A j87 + 0))))]) (by first | rfl | (rw [L_5bar_102])) rfl (by first | rfl | (rw [L_5bar_102])) (AR.loopN (B j87 + 1 - A j87) (fun j102 => [some (.ref 16384), some (.int (nI (v))), some (.int (nI (j87))), some (.int (nI ((A j87 + j102))))]) (fun j102 => (hp o0 a0 t0 p0 (mo (L_5bar_102 v q A te fr to un j87 (L_5bar_87 v q A B z te fr to un j87) j102) sa (svR z ro s) te (F_5read_fr q te fr to un) (F_5read_to q te fr to un) (F_5read_un q te fr to un) ga pi be bm (F_5read_en q te fr to un) (F_5read_sta q te fr to un) (nI (svN s)) ln (nI (0)) hh) u0 l0)) (fun j102 => True) (fun j102 hj102 hI102 ih102 => ?_) (fun hI102 => ?_) 0 (by omega) (by first | trivial | omega))
      · refine AR.run g_X5_bar_102_3 105 [some (.ref 16384), some (.int (nI (v))), some (.int (nI (j87))), some (.int (nI ((A j87 + j102))))] [.int (nI (j87)), .ref 16384, .int (nI ((A j87 + j102)))] _ [] rfl trivial ?_
        refine AR.callV1 (16384) [.int (nI (j87))] [.int (nI ((A j87 + j102)))] lk_5_146 dc_X5_bar_105 rfl rfl (s_5lastOf _ j87 (by omega)) (by first | rfl | (simp only [nI_add, pk_mul]; first | done | rfl)) rfl ?_
        refine AR.top (hB j87 (by omega)) ?_
        refine AR.gt2N (tgt := 142) (a := (A j87 + j102)) (b := (B j87)) dc_X5_bar_108 (by decide) (by first | rfl | (simp only [nI_add, pk_mul]; first | done | rfl)) (by first | rfl | (simp only [nI_add, pk_mul]; first | done | rfl)) (by omega) (by omega) (fun c108_9 => absurd c108_9 (by omega)) (fun c108_9 => ?_)
        refine AR.run g_X5_bar_111_16 134 [some (.ref 16384), some (.int (nI (v))), some (.int (nI (j87))), some (.int (nI ((A j87 + j102))))] [.int (nI (j87)), .ref 16391, .int (((nI (423)) + ((nI (3)) * (((nI (40)) * (nI (v))) + (nI ((A j87 + j102)))))) + (nI (2))), .ref 16385] _ [] rfl trivial ?_
        refine AR.ald (n := 0) (e := j87) ok_X5_bar_134 (by first | rfl | (simp only [nI_add, pk_mul]; first | done | rfl)) rfl (by omega) (by first | decide | omega) ?_
        refine AR.ast (n := 0) (e := ((423 + (3 * ((40 * v) + (A j87 + j102)))) + 2)) (h1 := (hp o0 a0 t0 p0 (mo (upd (L_5bar_102 v q A te fr to un j87 (L_5bar_87 v q A B z te fr to un j87) j102) ((423 + (3 * ((40 * v) + (A j87 + j102)))) + 2) ((F_5read_un q te fr to un) j87)) sa (svR z ro s) te (F_5read_fr q te fr to un) (F_5read_to q te fr to un) (F_5read_un q te fr to un) ga pi be bm (F_5read_en q te fr to un) (F_5read_sta q te fr to un) (nI (svN s)) ln (nI (0)) hh) u0 l0)) ok_X5_bar_135 (by first | rfl | (simp only [nI_add, pk_mul]; first | done | rfl)) rfl rfl (by omega) (by decide) rfl ?_
        refine AR.run g_X5_bar_136_2 102 [some (.ref 16384), some (.int (nI (v))), some (.int (nI (j87))), some (.int ((nI ((A j87 + j102))) + (nI (1))))] [] _ [] rfl trivial ?_
        have e10 : L_5bar_102 v q A te fr to un j87 (L_5bar_87 v q A B z te fr to un j87) (j102 + 1) = (upd (L_5bar_102 v q A te fr to un j87 (L_5bar_87 v q A B z te fr to un j87) j102) ((423 + (3 * ((40 * v) + (A j87 + j102)))) + 2) ((F_5read_un q te fr to un) j87)) := by rw [L_5bar_102, B_5bar_102]
        exact AR.cast (L' := [some (.ref 16384), some (.int (nI (v))), some (.int (nI (j87))), some (.int (nI ((A j87 + (j102 + 1)))))]) (by first | rfl | (rw [nI_add]; done) | (rw [nI_add]; rfl)) rfl (by rw [e10]) (ih102 (by first | trivial | omega))
      · refine AR.run g_X5_bar_102_3 105 [some (.ref 16384), some (.int (nI (v))), some (.int (nI (j87))), some (.int (nI ((A j87 + (B j87 + 1 - A j87)))))] [.int (nI (j87)), .ref 16384, .int (nI ((A j87 + (B j87 + 1 - A j87))))] _ [] rfl trivial ?_
        refine AR.callV1 (16384) [.int (nI (j87))] [.int (nI ((A j87 + (B j87 + 1 - A j87))))] lk_5_146 dc_X5_bar_105 rfl rfl (s_5lastOf _ j87 (by omega)) (by first | rfl | (simp only [nI_add, pk_mul]; first | done | rfl)) rfl ?_
        refine AR.top (hB j87 (by omega)) ?_
        refine AR.gt2N (tgt := 142) (a := (A j87 + (B j87 + 1 - A j87))) (b := (B j87)) dc_X5_bar_108 (by decide) (by first | rfl | (simp only [nI_add, pk_mul]; first | done | rfl)) (by first | rfl | (simp only [nI_add, pk_mul]; first | done | rfl)) (by omega) (by omega) (fun c108_11 => ?_) (fun c108_11 => absurd c108_11 (by omega))
        refine AR.run g_X5_bar_142_2 87 [some (.ref 16384), some (.int (nI (v))), some (.int ((nI (j87)) + (nI (1)))), some (.int (nI ((A j87 + (B j87 + 1 - A j87)))))] [] _ [] rfl trivial ?_
        refine AR.drop (L' := [some (.ref 16384), some (.int (nI (v))), some (.int ((nI (j87)) + (nI (1)))), none]) ⟨rfl, rfl, rfl, trivial⟩ ?_
        have e12 : L_5bar_87 v q A B z te fr to un (j87 + 1) = (L_5bar_102 v q A te fr to un j87 (L_5bar_87 v q A B z te fr to un j87) (B j87 + 1 - A j87)) := by rw [L_5bar_87, B_5bar_87]
        exact AR.cast (L' := [some (.ref 16384), some (.int (nI (v))), some (.int (nI (j87 + 1))), none]) (by first | rfl | (rw [nI_add]; done) | (rw [nI_add]; rfl)) rfl (by rw [e12]) (ih87 (by first | trivial | omega))
    · have hA_12 : ZI (L_5bar_87 v q A B z te fr to un (p + 1)) nv nc nr ne := ZI_bar hZ (p + 1)
      refine AR.run g_X5_bar_87_3 92 [some (.ref 16384), some (.int (nI (v))), some (.int (nI (p + 1))), none] [.int (F_5read_en q te fr to un), .int (nI (p + 1))] _ [] rfl trivial ?_
      refine AR.top hen ?_
      refine AR.gt2N (tgt := 148) (a := p + 1) (b := p) dc_X5_bar_92 (by decide) (by first | rfl | (simp only [nI_add, pk_mul]; first | done | rfl)) (by first | rfl | (simp only [nI_add, pk_mul]; first | done | rfl)) (by omega) (by omega) (fun c92_13 => ?_) (fun c92_13 => absurd c92_13 (by omega))
      refine AR.run g_X5_bar_148_5 155 [some (.ref 16384), some (.int (nI (v))), some (.int (nI (p + 1))), none] [.int (nI (v)), .ref 16384] (hp o0 a0 t0 p0 (mo (L_5bar_87 v q A B z te fr to un (p + 1)) sa (svR z ro s) te (F_5read_fr q te fr to un) (F_5read_to q te fr to un) (F_5read_un q te fr to un) ga pi be bm (F_5read_en q te fr to un) (F_5read_sta q te fr to un) (nI (svN s)) (nI (0)) (nI (0)) hh) u0 l0) [] rfl trivial ?_
      refine AR.callV1 (16384) [.int (nI (v))] [] lk_5_149 dc_X5_bar_155 rfl rfl (s_5barred _ v (by omega) (by first | assumption | exact (hLV v (by omega)).1 | exact (hA_7.2.2.2.2 v (by omega)).1 | exact (hA_12.2.2.2.2 v (by omega)).1) (by first | assumption | exact (hLV v (by omega)).2 | exact (hA_7.2.2.2.2 v (by omega)).2 | exact (hA_12.2.2.2.2 v (by omega)).2)) (by first | rfl | (simp only [nI_add, pk_mul]; first | done | rfl)) rfl ?_
      have e14_0 : F_5bar v q p A B z te fr to un = (L_5barred_4 v (L_5bar_87 v q A B z te fr to un (p + 1)) (lv (L_5bar_87 v q A B z te fr to un (p + 1)) v)) := by rw [F_5bar]
      have e14_1 : F_5bar_z v q p A B z te fr to un = (L_5bar_87 v q A B z te fr to un (p + 1)) := by rw [F_5bar_z]
      have e14_2 : F_5bar_ro s z ro = (svR z ro s) := by rw [F_5bar_ro]
      have e14_3 : F_5bar_fr q te fr to un = (F_5read_fr q te fr to un) := by rw [F_5bar_fr]
      have e14_4 : F_5bar_to q te fr to un = (F_5read_to q te fr to un) := by rw [F_5bar_to]
      have e14_5 : F_5bar_un q te fr to un = (F_5read_un q te fr to un) := by rw [F_5bar_un]
      have e14_6 : F_5bar_en q te fr to un = (F_5read_en q te fr to un) := by rw [F_5bar_en]
      have e14_7 : F_5bar_sta q te fr to un = (F_5read_sta q te fr to un) := by rw [F_5bar_sta]
      have e14_8 : F_5bar_sv s = (nI (svN s)) := by rw [F_5bar_sv]
      have e14_9 : F_5bar_ln = (nI (0)) := by rw [F_5bar_ln]
      have e14_10 : F_5bar_th = (nI (0)) := by rw [F_5bar_th]
      exact AR.retI dc_X5_bar_158 rfl e14_0.symm (by rw [e14_1, e14_2, e14_3, e14_4, e14_5, e14_6, e14_7, e14_8, e14_9, e14_10])
