def F_5passA : Int32 := (nI (0))
theorem F_5passA_01 : F_5passA  = nI 0 ∨ F_5passA  = nI 1 := by
  unfold F_5passA
  (repeat' split) <;> first | exact Or.inl rfl | exact Or.inr rfl | exact wi01 _ _ _
def F_5passA_th : Int32 := (nI (1))
theorem g_X5_pass_0_6 : ab_oks M_X5_pass [(0, .aload_n 0, 1, 0, 0, 0, .null), (1, .iconst 0, 1, 0, 0, 0, .int (nI (0))), (2, .putfield 40, 3, 5, 15, 951, .null), (5, .iload_n 1, 1, 1, 0, 0, .null), (6, .iconst 1, 1, 0, 0, 0, .int (nI (1))), (7, .sipush 500, 3, 0, 0, 0, .int (nI (500)))] = true := by decide +kernel
theorem dc_X5_pass_10 : decode (AM.bytes M_X5_pass) 10 = .ok (.invokestatic 44, 3) := by decide +kernel
theorem dc_X5_pass_13 : decode (AM.bytes M_X5_pass) 13 = .ok (.ifCond .ne 9, 3) := by decide +kernel
theorem g_X5_pass_16_2 : ab_oks M_X5_pass [(16, .aload_n 0, 1, 0, 0, 0, .null), (17, .iconst 1, 1, 0, 0, 0, .int (nI (1)))] = true := by decide +kernel
theorem dc_X5_pass_18 : decode (AM.bytes M_X5_pass) 18 = .ok (.invokevirtual 51, 3) := by decide +kernel
theorem dc_X5_pass_21 : decode (AM.bytes M_X5_pass) 21 = .ok (.ireturn, 1) := by decide +kernel
set_option maxRecDepth 100000 in
set_option maxHeartbeats 4000000 in
theorem s_5passA {E : AE} (d : Nat) (x : Int32)  {o0 a0 t0 p0 u0 l0 : List AC} {z sa ro te fr to un ga pi be : Nat → Int32} {bm en sta sv ln th : Int32} {hh : Int64} (hx : wi x (nI 1) (nI 500) = nI 0) : CT E M_X5_pass (d + 4) [.ref 16384, .int (x)] (hp o0 a0 t0 p0 (mo z sa ro te fr to un ga pi be bm en sta sv ln th hh) u0 l0) (.inl (some (.int (F_5passA)))) (hp o0 a0 t0 p0 (mo z sa ro te fr to un ga pi be bm en sta sv ln F_5passA_th hh) u0 l0) 0 0 := by
  refine CT.of (L := [some (.ref 16384), some (.int (x)), none, none]) rfl rfl ?_
  refine AR.run g_X5_pass_0_6 10 [some (.ref 16384), some (.int (x)), none, none] [.int (nI (500)), .int (nI (1)), .int (x)] (hp o0 a0 t0 p0 (mo z sa ro te fr to un ga pi be bm en sta sv ln (nI (0)) hh) u0 l0) [] rfl trivial ?_
  refine AR.callS1 [.int (x), .int (nI (1)), .int (nI (500))] [] lk_5_44 dc_X5_pass_10 (s_within _ x (nI (1)) (nI (500)) ) (by first | rfl | (simp only [nI_add, pk_mul]; first | done | rfl)) rfl ?_
  refine AR.top hx ?_
  refine AR.neN (tgt := 22) (a := 0) dc_X5_pass_13 (by decide) (by first | rfl | (simp only [nI_add, pk_mul]; first | done | rfl)) (by omega) (fun c13_1 => absurd c13_1 (by omega)) (fun c13_1 => ?_)
  refine AR.run g_X5_pass_16_2 18 [some (.ref 16384), some (.int (x)), none, none] [.int (nI (1)), .ref 16384] _ [] rfl trivial ?_
  refine AR.callV1 (16384) [.int (nI (1))] [] lk_5_51 dc_X5_pass_18 rfl rfl (s_fails _ (nI (1)) ) (by first | rfl | (simp only [nI_add, pk_mul]; first | done | rfl)) rfl ?_
  have e2_0 : F_5passA = (nI (0)) := by rw [F_5passA]
  have e2_1 : F_5passA_th = (nI (1)) := by rw [F_5passA_th]
  exact AR.retI dc_X5_pass_21 rfl e2_0.symm (by rw [e2_1])
def B_5pass_50 (nv : Nat) (nc : Nat) (nr : Nat) (j50 : Nat) (x50_2 : Int32) (y50_z : Nat → Int32) : (Int32) × (Nat → Int32) := (x50_2 + (F_5minute nv nc y50_z), F_5minute_z nv nc nr y50_z)
def L_5pass_50 (nv : Nat) (nc : Nat) (nr : Nat) (z : Nat → Int32) : Nat → (Int32) × (Nat → Int32)
  | 0 => (nI (0), z)
  | j + 1 => B_5pass_50 nv nc nr j ((L_5pass_50 nv nc nr z  j).1) ((L_5pass_50 nv nc nr z  j).2)
theorem ps_mn (nv nc nr : Nat) (z : Nat → Int32) : ∀ j : Nat, (L_5pass_50 nv nc nr z j).2 = mnN nv nc nr z j
  | 0 => rfl
  | j + 1 => by
    show F_5minute_z nv nc nr (L_5pass_50 nv nc nr z j).2 = _
    rw [ps_mn nv nc nr z j]
    rfl
def F_5pass (m : Nat) (nv : Nat) (nc : Nat) (nr : Nat) (z : Nat → Int32) : Int32 := if ((z 3) + (nI (m))) ≤ (nI (20000)) then ((L_5pass_50 nv nc nr z m).1) else (nI (0))
def F_5pass_z (m : Nat) (nv : Nat) (nc : Nat) (nr : Nat) (z : Nat → Int32) : Nat → Int32 := if ((z 3) + (nI (m))) ≤ (nI (20000)) then ((L_5pass_50 nv nc nr z m).2) else z
def F_5pass_ro (m : Nat) (s : Nat) (z : Nat → Int32) (ro : Nat → Int32) : Nat → Int32 := if ((z 3) + (nI (m))) ≤ (nI (20000)) then (svR z ro s) else ro
def F_5pass_sv (m : Nat) (s : Nat) (z : Nat → Int32) (sv : Int32) : Int32 := if ((z 3) + (nI (m))) ≤ (nI (20000)) then (nI (svN s)) else sv
def F_5pass_th (m : Nat) (z : Nat → Int32) : Int32 := if ((z 3) + (nI (m))) ≤ (nI (20000)) then (nI (0)) else (nI (2))
theorem g_X5_pass_22_3 : ab_oks M_X5_pass [(22, .aload_n 0, 1, 0, 0, 0, .null), (23, .getfield 7, 3, 5, 0, 936, .null), (26, .iconst 3, 1, 0, 0, 0, .int (nI (3)))] = true := by decide +kernel
theorem ok_X5_pass_27 : ab_ok M_X5_pass (27, .iaload, 1, 0, 0, 0, .null) = true := by decide +kernel
theorem g_X5_pass_28_3 : ab_oks M_X5_pass [(28, .iload_n 1, 1, 1, 0, 0, .null), (29, .iadd, 1, 0, 0, 0, .null), (30, .sipush 20000, 3, 0, 0, 0, .int (nI (20000)))] = true := by decide +kernel
theorem dc_X5_pass_33 : decode (AM.bytes M_X5_pass) 33 = .ok (.if_icmp .le 9, 3) := by decide +kernel
theorem g_X5_pass_42_1 : ab_oks M_X5_pass [(42, .aload_n 0, 1, 0, 0, 0, .null)] = true := by decide +kernel
theorem dc_X5_pass_43 : decode (AM.bytes M_X5_pass) 43 = .ok (.invokevirtual 55, 3) := by decide +kernel
theorem g_X5_pass_46_4 : ab_oks M_X5_pass [(46, .iconst 0, 1, 0, 0, 0, .int (nI (0))), (47, .istore_n 2, 1, 2, 0, 0, .null), (48, .iconst 0, 1, 0, 0, 0, .int (nI (0))), (49, .istore_n 3, 1, 3, 0, 0, .null)] = true := by decide +kernel
theorem g_X5_pass_50_2 : ab_oks M_X5_pass [(50, .iload_n 3, 1, 3, 0, 0, .null), (51, .iload_n 1, 1, 1, 0, 0, .null)] = true := by decide +kernel
theorem dc_X5_pass_52 : decode (AM.bytes M_X5_pass) 52 = .ok (.if_icmp .ge 16, 3) := by decide +kernel
theorem g_X5_pass_55_2 : ab_oks M_X5_pass [(55, .iload_n 2, 1, 2, 0, 0, .null), (56, .aload_n 0, 1, 0, 0, 0, .null)] = true := by decide +kernel
theorem dc_X5_pass_57 : decode (AM.bytes M_X5_pass) 57 = .ok (.invokevirtual 107, 3) := by decide +kernel
theorem g_X5_pass_60_4 : ab_oks M_X5_pass [(60, .iadd, 1, 0, 0, 0, .null), (61, .istore_n 2, 1, 2, 0, 0, .null), (62, .iinc 3 1, 3, 3, 0, 0, .int (nI (1))), (65, .goto (-15), 3, 50, 0, 0, .null)] = true := by decide +kernel
theorem g_X5_pass_68_1 : ab_oks M_X5_pass [(68, .iload_n 2, 1, 2, 0, 0, .null)] = true := by decide +kernel
theorem dc_X5_pass_69 : decode (AM.bytes M_X5_pass) 69 = .ok (.ireturn, 1) := by decide +kernel
theorem g_X5_pass_36_2 : ab_oks M_X5_pass [(36, .aload_n 0, 1, 0, 0, 0, .null), (37, .iconst 2, 1, 0, 0, 0, .int (nI (2)))] = true := by decide +kernel
theorem dc_X5_pass_38 : decode (AM.bytes M_X5_pass) 38 = .ok (.invokevirtual 51, 3) := by decide +kernel
theorem dc_X5_pass_41 : decode (AM.bytes M_X5_pass) 41 = .ok (.ireturn, 1) := by decide +kernel
set_option maxRecDepth 100000 in
set_option maxHeartbeats 4000000 in
theorem s_5pass {E : AE} (d : Nat) (m : Nat) {nv : Nat} {nc : Nat} {nr : Nat} {ne : Nat} {s : Nat}  {o0 a0 t0 p0 u0 l0 : List AC} {z sa ro te fr to un ga pi be : Nat → Int32} {bm en sta sv ln th : Int32} {hh : Int64} (hZ : ZI z nv nc nr ne) (hs : sv = nI s) (hs6 : s ≤ 6) (h1m : 1 ≤ m) (hm : m ≤ 500) : CT E M_X5_pass (d + 4) [.ref 16384, .int (nI (m))] (hp o0 a0 t0 p0 (mo z sa ro te fr to un ga pi be bm en sta sv ln th hh) u0 l0) (.inl (some (.int (F_5pass m nv nc nr z)))) (hp o0 a0 t0 p0 (mo (F_5pass_z m nv nc nr z) sa (F_5pass_ro m s z ro) te fr to un ga pi be bm en sta (F_5pass_sv m s z sv) ln (F_5pass_th m z) hh) u0 l0) 0 0 := by
  obtain ⟨⟨hnv, h12⟩, ⟨hnc, h4⟩, ⟨hnr, h3⟩, ⟨hne, h60⟩, hLV⟩ := id hZ
  refine CT.of (L := [some (.ref 16384), some (.int (nI (m))), none, none]) rfl rfl ?_
  refine AR.run g_X5_pass_0_6 10 [some (.ref 16384), some (.int (nI (m))), none, none] [.int (nI (500)), .int (nI (1)), .int (nI (m))] (hp o0 a0 t0 p0 (mo z sa ro te fr to un ga pi be bm en sta sv ln (nI (0)) hh) u0 l0) [] rfl trivial ?_
  refine AR.callS1 [.int (nI (m)), .int (nI (1)), .int (nI (500))] [] lk_5_44 dc_X5_pass_10 (s_within _ (nI (m)) (nI (1)) (nI (500)) ) (by first | rfl | (simp only [nI_add, pk_mul]; first | done | rfl)) rfl ?_
  refine AR.top (wiN_t (by omega) (by omega) (by decide)) ?_
  refine AR.neN (tgt := 22) (a := 1) dc_X5_pass_13 (by decide) (by first | rfl | (simp only [nI_add, pk_mul]; first | done | rfl)) (by omega) (fun c13_1 => ?_) (fun c13_1 => absurd c13_1 (by omega))
  refine AR.run g_X5_pass_22_3 27 [some (.ref 16384), some (.int (nI (m))), none, none] [.int (nI (3)), .ref 16385] _ [] rfl trivial ?_
  refine AR.ald (n := 0) (e := 3) ok_X5_pass_27 (by first | rfl | (simp only [nI_add, pk_mul]; first | done | rfl)) rfl (by omega) (by first | decide | omega) ?_
  refine AR.run g_X5_pass_28_3 33 [some (.ref 16384), some (.int (nI (m))), none, none] [.int (nI (20000)), .int ((z 3) + (nI (m)))] _ [] rfl trivial ?_
  refine AR.le2 (tgt := 42) dc_X5_pass_33 (by decide) (fun c33_2 => ?_) (fun c33_2 => ?_)
  · refine AR.run g_X5_pass_42_1 43 [some (.ref 16384), some (.int (nI (m))), none, none] [.ref 16384] _ [] rfl trivial ?_
    refine AR.callV0 (16384) [] [] lk_5_55 dc_X5_pass_43 rfl rfl (s_5save _ (by assumption) (by omega)) (by first | rfl | (simp only [nI_add, pk_mul]; first | done | rfl)) rfl ?_
    refine AR.run g_X5_pass_46_4 50 [some (.ref 16384), some (.int (nI (m))), some (.int (nI (0))), some (.int (nI (0)))] [] _ [] rfl trivial ?_
    refine AR.cast (L' := [some (.ref 16384), some (.int (nI (m))), some (.int ((L_5pass_50 nv nc nr z 0).1)), some (.int (nI (0)))]) (by first | rfl | (rw [L_5pass_50])) rfl (by first | rfl | (rw [L_5pass_50])) (AR.loopN m (fun j50 => [some (.ref 16384), some (.int (nI (m))), some (.int ((L_5pass_50 nv nc nr z j50).1)), some (.int (nI (j50)))]) (fun j50 => (hp o0 a0 t0 p0 (mo ((L_5pass_50 nv nc nr z j50).2) sa (svR z ro s) te fr to un ga pi be bm en sta (nI (svN s)) ln (nI (0)) hh) u0 l0)) (fun j50 => True) (fun j50 hj50 hI50 ih50 => ?_) (fun hI50 => ?_) 0 (by omega) (by first | trivial | omega))
    · have hA_2 : ZI ((L_5pass_50 nv nc nr z j50).2) nv nc nr ne := by rw [ps_mn]; exact ZI_mnN hZ j50
      refine AR.run g_X5_pass_50_2 52 [some (.ref 16384), some (.int (nI (m))), some (.int ((L_5pass_50 nv nc nr z j50).1)), some (.int (nI (j50)))] [.int (nI (m)), .int (nI (j50))] _ [] rfl trivial ?_
      refine AR.ge2N (tgt := 68) (a := j50) (b := m) dc_X5_pass_52 (by decide) (by first | rfl | (simp only [nI_add, pk_mul]; first | done | rfl)) (by first | rfl | (simp only [nI_add, pk_mul]; first | done | rfl)) (by omega) (by omega) (fun c52_3 => absurd c52_3 (by omega)) (fun c52_3 => ?_)
      refine AR.run g_X5_pass_55_2 57 [some (.ref 16384), some (.int (nI (m))), some (.int ((L_5pass_50 nv nc nr z j50).1)), some (.int (nI (j50)))] [.ref 16384, .int ((L_5pass_50 nv nc nr z j50).1)] _ [] rfl trivial ?_
      refine AR.callV1 (16384) [] [.int ((L_5pass_50 nv nc nr z j50).1)] lk_5_107 dc_X5_pass_57 rfl rfl (s_5minute _  (by assumption)) (by first | rfl | (simp only [nI_add, pk_mul]; first | done | rfl)) rfl ?_
      refine AR.run g_X5_pass_60_4 50 [some (.ref 16384), some (.int (nI (m))), some (.int (((L_5pass_50 nv nc nr z j50).1) + (F_5minute nv nc ((L_5pass_50 nv nc nr z j50).2)))), some (.int ((nI (j50)) + (nI (1))))] [] _ [] rfl trivial ?_
      have e4 : L_5pass_50 nv nc nr z (j50 + 1) = (((L_5pass_50 nv nc nr z j50).1) + (F_5minute nv nc ((L_5pass_50 nv nc nr z j50).2)), F_5minute_z nv nc nr ((L_5pass_50 nv nc nr z j50).2)) := by rw [L_5pass_50, B_5pass_50]
      exact AR.cast (L' := [some (.ref 16384), some (.int (nI (m))), some (.int ((L_5pass_50 nv nc nr z (j50 + 1)).1)), some (.int (nI (j50 + 1)))]) (by rw [e4, nI_add]) rfl (by rw [e4]) (ih50 (by first | trivial | omega))
    · have hA_4 : ZI ((L_5pass_50 nv nc nr z m).2) nv nc nr ne := by rw [ps_mn]; exact ZI_mnN hZ m
      refine AR.run g_X5_pass_50_2 52 [some (.ref 16384), some (.int (nI (m))), some (.int ((L_5pass_50 nv nc nr z m).1)), some (.int (nI (m)))] [.int (nI (m)), .int (nI (m))] _ [] rfl trivial ?_
      refine AR.ge2N (tgt := 68) (a := m) (b := m) dc_X5_pass_52 (by decide) (by first | rfl | (simp only [nI_add, pk_mul]; first | done | rfl)) (by first | rfl | (simp only [nI_add, pk_mul]; first | done | rfl)) (by omega) (by omega) (fun c52_5 => ?_) (fun c52_5 => absurd c52_5 (by omega))
      refine AR.run g_X5_pass_68_1 69 [some (.ref 16384), some (.int (nI (m))), some (.int ((L_5pass_50 nv nc nr z m).1)), some (.int (nI (m)))] [.int ((L_5pass_50 nv nc nr z m).1)] _ [] rfl trivial ?_
      have e6_0 : F_5pass m nv nc nr z = ((L_5pass_50 nv nc nr z m).1) := by rw [F_5pass, if_pos c33_2]
      have e6_1 : F_5pass_z m nv nc nr z = ((L_5pass_50 nv nc nr z m).2) := by rw [F_5pass_z, if_pos c33_2]
      have e6_2 : F_5pass_ro m s z ro = (svR z ro s) := by rw [F_5pass_ro, if_pos c33_2]
      have e6_3 : F_5pass_sv m s z sv = (nI (svN s)) := by rw [F_5pass_sv, if_pos c33_2]
      have e6_4 : F_5pass_th m z = (nI (0)) := by rw [F_5pass_th, if_pos c33_2]
      exact AR.retI dc_X5_pass_69 rfl e6_0.symm (by rw [e6_1, e6_2, e6_3, e6_4])
  · refine AR.run g_X5_pass_36_2 38 [some (.ref 16384), some (.int (nI (m))), none, none] [.int (nI (2)), .ref 16384] _ [] rfl trivial ?_
    refine AR.callV1 (16384) [.int (nI (2))] [] lk_5_51 dc_X5_pass_38 rfl rfl (s_fails _ (nI (2)) ) (by first | rfl | (simp only [nI_add, pk_mul]; first | done | rfl)) rfl ?_
    have e7_0 : F_5pass m nv nc nr z = (nI (0)) := by rw [F_5pass, if_neg c33_2]
    have e7_1 : F_5pass_z m nv nc nr z = z := by rw [F_5pass_z, if_neg c33_2]
    have e7_2 : F_5pass_ro m s z ro = ro := by rw [F_5pass_ro, if_neg c33_2]
    have e7_3 : F_5pass_sv m s z sv = sv := by rw [F_5pass_sv, if_neg c33_2]
    have e7_4 : F_5pass_th m z = (nI (2)) := by rw [F_5pass_th, if_neg c33_2]
    exact AR.retI dc_X5_pass_41 rfl e7_0.symm (by rw [e7_1, e7_2, e7_3, e7_4])
theorem g_X5_isLeaf_0_2 : ab_oks M_X5_isLeaf [(0, .aload_n 0, 1, 0, 0, 0, .null), (1, .iload_n 1, 1, 1, 0, 0, .null)] = true := by decide +kernel
theorem dc_X5_isLeaf_2 : decode (AM.bytes M_X5_isLeaf) 2 = .ok (.invokevirtual 85, 3) := by decide +kernel
theorem dc_X5_isLeaf_5 : decode (AM.bytes M_X5_isLeaf) 5 = .ok (.ifCond .eq 23, 3) := by decide +kernel
theorem g_X5_isLeaf_28_1 : ab_oks M_X5_isLeaf [(28, .iconst 0, 1, 0, 0, 0, .int (nI (0)))] = true := by decide +kernel
theorem dc_X5_isLeaf_29 : decode (AM.bytes M_X5_isLeaf) 29 = .ok (.ireturn, 1) := by decide +kernel
set_option maxRecDepth 100000 in
set_option maxHeartbeats 4000000 in
theorem s_5isLeafA {E : AE} (d : Nat) (x : Int32) (y : Int32) {nv : Nat} {nc : Nat} {nr : Nat} {ne : Nat}  {o0 a0 t0 p0 u0 l0 : List AC} {z sa ro te fr to un ga pi be : Nat → Int32} {bm en sta sv ln th : Int32} {hh : Int64} (hZ : ZI z nv nc nr ne) (hbad : ¬ ∃ q9 : Nat, q9 < nv ∧ x = nI q9) : CT E M_X5_isLeaf (d + 2) [.ref 16384, .int (x), .int (y)] (hp o0 a0 t0 p0 (mo z sa ro te fr to un ga pi be bm en sta sv ln th hh) u0 l0) (.inl (some (.int (nI (0))))) (hp o0 a0 t0 p0 (mo z sa ro te fr to un ga pi be bm en sta sv ln th hh) u0 l0) 0 0 := by
  obtain ⟨⟨hnv, h12⟩, ⟨hnc, h4⟩, ⟨hnr, h3⟩, ⟨hne, h60⟩, hLV⟩ := id hZ
  refine CT.of (L := [some (.ref 16384), some (.int (x)), some (.int (y))]) rfl rfl ?_
  refine AR.run g_X5_isLeaf_0_2 2 [some (.ref 16384), some (.int (x)), some (.int (y))] [.int (x), .ref 16384] _ [] rfl trivial ?_
  refine AR.callV1 (16384) [.int (x)] [] lk_5_85 dc_X5_isLeaf_2 rfl rfl (CT.ret (s_isVolume _ x hZ.1.1) (wiV_f (by omega) (by assumption))) (by first | rfl | (simp only [nI_add, pk_mul]; first | done | rfl)) rfl ?_
  refine AR.eqN (tgt := 28) (a := 0) dc_X5_isLeaf_5 (by decide) (by first | rfl | (simp only [nI_add, pk_mul]; first | done | rfl)) (by omega) (fun c5_1 => ?_) (fun c5_1 => absurd c5_1 (by omega))
  refine AR.run g_X5_isLeaf_28_1 29 [some (.ref 16384), some (.int (x)), some (.int (y))] [.int (nI (0))] _ [] rfl trivial ?_
  exact AR.retZ dc_X5_isLeaf_29 rfl (Or.inl rfl) rfl rfl
theorem g_X5_isLeaf_8_5 : ab_oks M_X5_isLeaf [(8, .iload_n 2, 1, 2, 0, 0, .null), (9, .iconst 0, 1, 0, 0, 0, .int (nI (0))), (10, .aload_n 0, 1, 0, 0, 0, .null), (11, .iload_n 1, 1, 1, 0, 0, .null), (12, .iconst 2, 1, 0, 0, 0, .int (nI (2)))] = true := by decide +kernel
theorem dc_X5_isLeaf_13 : decode (AM.bytes M_X5_isLeaf) 13 = .ok (.invokevirtual 62, 3) := by decide +kernel
theorem g_X5_isLeaf_16_2 : ab_oks M_X5_isLeaf [(16, .iconst 1, 1, 0, 0, 0, .int (nI (1))), (17, .isub, 1, 0, 0, 0, .null)] = true := by decide +kernel
theorem dc_X5_isLeaf_18 : decode (AM.bytes M_X5_isLeaf) 18 = .ok (.invokestatic 44, 3) := by decide +kernel
theorem dc_X5_isLeaf_21 : decode (AM.bytes M_X5_isLeaf) 21 = .ok (.ifCond .eq 7, 3) := by decide +kernel
set_option maxRecDepth 100000 in
set_option maxHeartbeats 4000000 in
theorem s_5isLeafB {E : AE} (d : Nat) (v : Nat) (x : Int32) {nv : Nat} {nc : Nat} {nr : Nat} {ne : Nat}  {o0 a0 t0 p0 u0 l0 : List AC} {z sa ro te fr to un ga pi be : Nat → Int32} {bm en sta sv ln th : Int32} {hh : Int64} (hZ : ZI z nv nc nr ne) (hv : v < nv) (hbad : ¬ ∃ q9 : Nat, q9 < lv z v ∧ x = nI q9) : CT E M_X5_isLeaf (d + 2) [.ref 16384, .int (nI (v)), .int (x)] (hp o0 a0 t0 p0 (mo z sa ro te fr to un ga pi be bm en sta sv ln th hh) u0 l0) (.inl (some (.int (nI (0))))) (hp o0 a0 t0 p0 (mo z sa ro te fr to un ga pi be bm en sta sv ln th hh) u0 l0) 0 0 := by
  obtain ⟨⟨hnv, h12⟩, ⟨hnc, h4⟩, ⟨hnr, h3⟩, ⟨hne, h60⟩, hLV⟩ := id hZ
  have h40 := (hLV v hv).2
  refine CT.of (L := [some (.ref 16384), some (.int (nI (v))), some (.int (x))]) rfl rfl ?_
  refine AR.run g_X5_isLeaf_0_2 2 [some (.ref 16384), some (.int (nI (v))), some (.int (x))] [.int (nI (v)), .ref 16384] _ [] rfl trivial ?_
  refine AR.callV1 (16384) [.int (nI (v))] [] lk_5_85 dc_X5_isLeaf_2 rfl rfl (CT.ret (s_isVolume _ (nI (v)) hZ.1.1) (wiV_t (by omega) (by omega))) (by first | rfl | (simp only [nI_add, pk_mul]; first | done | rfl)) rfl ?_
  refine AR.eqN (tgt := 28) (a := 1) dc_X5_isLeaf_5 (by decide) (by first | rfl | (simp only [nI_add, pk_mul]; first | done | rfl)) (by omega) (fun c5_1 => absurd c5_1 (by omega)) (fun c5_1 => ?_)
  refine AR.run g_X5_isLeaf_8_5 13 [some (.ref 16384), some (.int (nI (v))), some (.int (x))] [.int (nI (2)), .int (nI (v)), .ref 16384, .int (nI (0)), .int (x)] _ [] rfl trivial ?_
  refine AR.callV1 (16384) [.int (nI (v)), .int (nI (2))] [.int (nI (0)), .int (x)] lk_5_62 dc_X5_isLeaf_13 rfl rfl (s_ofVolume _ v 2 (by omega) (by omega)) (by first | rfl | (simp only [nI_add, pk_mul]; first | done | rfl)) rfl ?_
  refine AR.top (hLV v hv).1 ?_
  refine AR.run g_X5_isLeaf_16_2 18 [some (.ref 16384), some (.int (nI (v))), some (.int (x))] [.int ((nI ((lv z v))) - (nI (1))), .int (nI (0)), .int (x)] _ [] rfl trivial ?_
  refine AR.callS1 [.int (x), .int (nI (0)), .int ((nI ((lv z v))) - (nI (1)))] [] lk_5_44 dc_X5_isLeaf_18 (s_within _ x (nI (0)) ((nI ((lv z v))) - (nI (1))) ) (by first | rfl | (simp only [nI_add, pk_mul]; first | done | rfl)) rfl ?_
  refine AR.top (wiV_f (by omega) hbad) ?_
  refine AR.eqN (tgt := 28) (a := 0) dc_X5_isLeaf_21 (by decide) (by first | rfl | (simp only [nI_add, pk_mul]; first | done | rfl)) (by omega) (fun c21_2 => ?_) (fun c21_2 => absurd c21_2 (by omega))
  refine AR.run g_X5_isLeaf_28_1 29 [some (.ref 16384), some (.int (nI (v))), some (.int (x))] [.int (nI (0))] _ [] rfl trivial ?_
  exact AR.retZ dc_X5_isLeaf_29 rfl (Or.inl rfl) rfl rfl
theorem g_X5_isLeaf_24_2 : ab_oks M_X5_isLeaf [(24, .iconst 1, 1, 0, 0, 0, .int (nI (1))), (25, .goto 4, 3, 29, 0, 0, .null)] = true := by decide +kernel
set_option maxRecDepth 100000 in
set_option maxHeartbeats 4000000 in
theorem s_5isLeafC {E : AE} (d : Nat) (v : Nat) (k : Nat) {nv : Nat} {nc : Nat} {nr : Nat} {ne : Nat}  {o0 a0 t0 p0 u0 l0 : List AC} {z sa ro te fr to un ga pi be : Nat → Int32} {bm en sta sv ln th : Int32} {hh : Int64} (hZ : ZI z nv nc nr ne) (hv : v < nv) (hk : k < lv z v) : CT E M_X5_isLeaf (d + 2) [.ref 16384, .int (nI (v)), .int (nI (k))] (hp o0 a0 t0 p0 (mo z sa ro te fr to un ga pi be bm en sta sv ln th hh) u0 l0) (.inl (some (.int (nI (1))))) (hp o0 a0 t0 p0 (mo z sa ro te fr to un ga pi be bm en sta sv ln th hh) u0 l0) 0 0 := by
  obtain ⟨⟨hnv, h12⟩, ⟨hnc, h4⟩, ⟨hnr, h3⟩, ⟨hne, h60⟩, hLV⟩ := id hZ
  have h40 := (hLV v hv).2
  refine CT.of (L := [some (.ref 16384), some (.int (nI (v))), some (.int (nI (k)))]) rfl rfl ?_
  refine AR.run g_X5_isLeaf_0_2 2 [some (.ref 16384), some (.int (nI (v))), some (.int (nI (k)))] [.int (nI (v)), .ref 16384] _ [] rfl trivial ?_
  refine AR.callV1 (16384) [.int (nI (v))] [] lk_5_85 dc_X5_isLeaf_2 rfl rfl (CT.ret (s_isVolume _ (nI (v)) hZ.1.1) (wiV_t (by omega) (by omega))) (by first | rfl | (simp only [nI_add, pk_mul]; first | done | rfl)) rfl ?_
  refine AR.eqN (tgt := 28) (a := 1) dc_X5_isLeaf_5 (by decide) (by first | rfl | (simp only [nI_add, pk_mul]; first | done | rfl)) (by omega) (fun c5_1 => absurd c5_1 (by omega)) (fun c5_1 => ?_)
  refine AR.run g_X5_isLeaf_8_5 13 [some (.ref 16384), some (.int (nI (v))), some (.int (nI (k)))] [.int (nI (2)), .int (nI (v)), .ref 16384, .int (nI (0)), .int (nI (k))] _ [] rfl trivial ?_
  refine AR.callV1 (16384) [.int (nI (v)), .int (nI (2))] [.int (nI (0)), .int (nI (k))] lk_5_62 dc_X5_isLeaf_13 rfl rfl (s_ofVolume _ v 2 (by omega) (by omega)) (by first | rfl | (simp only [nI_add, pk_mul]; first | done | rfl)) rfl ?_
  refine AR.top (hLV v hv).1 ?_
  refine AR.run g_X5_isLeaf_16_2 18 [some (.ref 16384), some (.int (nI (v))), some (.int (nI (k)))] [.int ((nI ((lv z v))) - (nI (1))), .int (nI (0)), .int (nI (k))] _ [] rfl trivial ?_
  refine AR.callS1 [.int (nI (k)), .int (nI (0)), .int ((nI ((lv z v))) - (nI (1)))] [] lk_5_44 dc_X5_isLeaf_18 (s_within _ (nI (k)) (nI (0)) ((nI ((lv z v))) - (nI (1))) ) (by first | rfl | (simp only [nI_add, pk_mul]; first | done | rfl)) rfl ?_
  refine AR.top (wiV_t (by omega) (by omega)) ?_
  refine AR.eqN (tgt := 28) (a := 1) dc_X5_isLeaf_21 (by decide) (by first | rfl | (simp only [nI_add, pk_mul]; first | done | rfl)) (by omega) (fun c21_2 => absurd c21_2 (by omega)) (fun c21_2 => ?_)
  refine AR.run g_X5_isLeaf_24_2 29 [some (.ref 16384), some (.int (nI (v))), some (.int (nI (k)))] [.int (nI (1))] _ [] rfl trivial ?_
  exact AR.retZ dc_X5_isLeaf_29 rfl (Or.inr rfl) rfl rfl
def F_5rejectA : Int32 := (nI (0))
theorem F_5rejectA_01 : F_5rejectA  = nI 0 ∨ F_5rejectA  = nI 1 := by
  unfold F_5rejectA
  (repeat' split) <;> first | exact Or.inl rfl | exact Or.inr rfl | exact wi01 _ _ _
def F_5rejectA_th : Int32 := (nI (1))
theorem g_X5_reject_0_6 : ab_oks M_X5_reject [(0, .aload_n 0, 1, 0, 0, 0, .null), (1, .iconst 0, 1, 0, 0, 0, .int (nI (0))), (2, .putfield 40, 3, 5, 15, 951, .null), (5, .aload_n 0, 1, 0, 0, 0, .null), (6, .iload_n 1, 1, 1, 0, 0, .null), (7, .iload_n 2, 1, 2, 0, 0, .null)] = true := by decide +kernel
theorem lk_5_111 : ab_lkV "LeafCradlesModel" 111 M_X5_isLeaf 2 [1103, 1105, 51, 97, 1106] = true := by decide +kernel
theorem dc_X5_reject_8 : decode (AM.bytes M_X5_reject) 8 = .ok (.invokevirtual 111, 3) := by decide +kernel
theorem dc_X5_reject_11 : decode (AM.bytes M_X5_reject) 11 = .ok (.ifCond .ne 9, 3) := by decide +kernel
theorem g_X5_reject_14_2 : ab_oks M_X5_reject [(14, .aload_n 0, 1, 0, 0, 0, .null), (15, .iconst 1, 1, 0, 0, 0, .int (nI (1)))] = true := by decide +kernel
theorem dc_X5_reject_16 : decode (AM.bytes M_X5_reject) 16 = .ok (.invokevirtual 51, 3) := by decide +kernel
theorem dc_X5_reject_19 : decode (AM.bytes M_X5_reject) 19 = .ok (.ireturn, 1) := by decide +kernel
set_option maxRecDepth 100000 in
set_option maxHeartbeats 4000000 in
theorem s_5rejectA {E : AE} (d : Nat) (x : Int32) (y : Int32) {nv : Nat} {nc : Nat} {nr : Nat} {ne : Nat}  {o0 a0 t0 p0 u0 l0 : List AC} {z sa ro te fr to un ga pi be : Nat → Int32} {bm en sta sv ln th : Int32} {hh : Int64} (hZ : ZI z nv nc nr ne) (hbad : ¬ ∃ q9 : Nat, q9 < nv ∧ x = nI q9) : CT E M_X5_reject (d + 3) [.ref 16384, .int (x), .int (y)] (hp o0 a0 t0 p0 (mo z sa ro te fr to un ga pi be bm en sta sv ln th hh) u0 l0) (.inl (some (.int (F_5rejectA)))) (hp o0 a0 t0 p0 (mo z sa ro te fr to un ga pi be bm en sta sv ln F_5rejectA_th hh) u0 l0) 0 0 := by
  obtain ⟨⟨hnv, h12⟩, ⟨hnc, h4⟩, ⟨hnr, h3⟩, ⟨hne, h60⟩, hLV⟩ := id hZ
  refine CT.of (L := [some (.ref 16384), some (.int (x)), some (.int (y))]) rfl rfl ?_
  refine AR.run g_X5_reject_0_6 8 [some (.ref 16384), some (.int (x)), some (.int (y))] [.int (y), .int (x), .ref 16384] (hp o0 a0 t0 p0 (mo z sa ro te fr to un ga pi be bm en sta sv ln (nI (0)) hh) u0 l0) [] rfl trivial ?_
  refine AR.callV1 (16384) [.int (x), .int (y)] [] lk_5_111 dc_X5_reject_8 rfl rfl (s_5isLeafA _ x y (by assumption) (by assumption)) (by first | rfl | (simp only [nI_add, pk_mul]; first | done | rfl)) rfl ?_
  refine AR.neN (tgt := 20) (a := 0) dc_X5_reject_11 (by decide) (by first | rfl | (simp only [nI_add, pk_mul]; first | done | rfl)) (by omega) (fun c11_1 => absurd c11_1 (by omega)) (fun c11_1 => ?_)
  refine AR.run g_X5_reject_14_2 16 [some (.ref 16384), some (.int (x)), some (.int (y))] [.int (nI (1)), .ref 16384] _ [] rfl trivial ?_
  refine AR.callV1 (16384) [.int (nI (1))] [] lk_5_51 dc_X5_reject_16 rfl rfl (s_fails _ (nI (1)) ) (by first | rfl | (simp only [nI_add, pk_mul]; first | done | rfl)) rfl ?_
  have e2_0 : F_5rejectA = (nI (0)) := by rw [F_5rejectA]
  have e2_1 : F_5rejectA_th = (nI (1)) := by rw [F_5rejectA_th]
  exact AR.retI dc_X5_reject_19 rfl e2_0.symm (by rw [e2_1])
def F_5rejectB : Int32 := (nI (0))
theorem F_5rejectB_01 : F_5rejectB  = nI 0 ∨ F_5rejectB  = nI 1 := by
  unfold F_5rejectB
  (repeat' split) <;> first | exact Or.inl rfl | exact Or.inr rfl | exact wi01 _ _ _
def F_5rejectB_th : Int32 := (nI (1))
set_option maxRecDepth 100000 in
set_option maxHeartbeats 4000000 in
theorem s_5rejectB {E : AE} (d : Nat) (v : Nat) (x : Int32) {nv : Nat} {nc : Nat} {nr : Nat} {ne : Nat}  {o0 a0 t0 p0 u0 l0 : List AC} {z sa ro te fr to un ga pi be : Nat → Int32} {bm en sta sv ln th : Int32} {hh : Int64} (hZ : ZI z nv nc nr ne) (hv : v < nv) (hbad : ¬ ∃ q9 : Nat, q9 < lv z v ∧ x = nI q9) : CT E M_X5_reject (d + 3) [.ref 16384, .int (nI (v)), .int (x)] (hp o0 a0 t0 p0 (mo z sa ro te fr to un ga pi be bm en sta sv ln th hh) u0 l0) (.inl (some (.int (F_5rejectB)))) (hp o0 a0 t0 p0 (mo z sa ro te fr to un ga pi be bm en sta sv ln F_5rejectB_th hh) u0 l0) 0 0 := by
  obtain ⟨⟨hnv, h12⟩, ⟨hnc, h4⟩, ⟨hnr, h3⟩, ⟨hne, h60⟩, hLV⟩ := id hZ
  refine CT.of (L := [some (.ref 16384), some (.int (nI (v))), some (.int (x))]) rfl rfl ?_
  refine AR.run g_X5_reject_0_6 8 [some (.ref 16384), some (.int (nI (v))), some (.int (x))] [.int (x), .int (nI (v)), .ref 16384] (hp o0 a0 t0 p0 (mo z sa ro te fr to un ga pi be bm en sta sv ln (nI (0)) hh) u0 l0) [] rfl trivial ?_
  refine AR.callV1 (16384) [.int (nI (v)), .int (x)] [] lk_5_111 dc_X5_reject_8 rfl rfl (s_5isLeafB _ v x (by assumption) (by omega) (by assumption)) (by first | rfl | (simp only [nI_add, pk_mul]; first | done | rfl)) rfl ?_
  refine AR.neN (tgt := 20) (a := 0) dc_X5_reject_11 (by decide) (by first | rfl | (simp only [nI_add, pk_mul]; first | done | rfl)) (by omega) (fun c11_1 => absurd c11_1 (by omega)) (fun c11_1 => ?_)
  refine AR.run g_X5_reject_14_2 16 [some (.ref 16384), some (.int (nI (v))), some (.int (x))] [.int (nI (1)), .ref 16384] _ [] rfl trivial ?_
  refine AR.callV1 (16384) [.int (nI (1))] [] lk_5_51 dc_X5_reject_16 rfl rfl (s_fails _ (nI (1)) ) (by first | rfl | (simp only [nI_add, pk_mul]; first | done | rfl)) rfl ?_
  have e2_0 : F_5rejectB = (nI (0)) := by rw [F_5rejectB]
  have e2_1 : F_5rejectB_th = (nI (1)) := by rw [F_5rejectB_th]
  exact AR.retI dc_X5_reject_19 rfl e2_0.symm (by rw [e2_1])
def F_5reject (v : Nat) (k : Nat) (z : Nat → Int32) : Int32 := if (z (423 + 3 * (40 * v + k) + 0)) = (nI (1)) then (L_5leavesWith_5 v (nI (2)) (upd (upd z (423 + (3 * ((40 * v) + k))) (nI (2))) 6 ((z 6) + (nI (1)))) (lv (upd (upd z (423 + (3 * ((40 * v) + k))) (nI (2))) 6 ((z 6) + (nI (1)))) v)) else (nI (0))
def F_5reject_z (v : Nat) (k : Nat) (z : Nat → Int32) : Nat → Int32 := if (z (423 + 3 * (40 * v + k) + 0)) = (nI (1)) then (upd (upd z (423 + (3 * ((40 * v) + k))) (nI (2))) 6 ((z 6) + (nI (1)))) else z
def F_5reject_ro (v : Nat) (k : Nat) (s : Nat) (z : Nat → Int32) (ro : Nat → Int32) : Nat → Int32 := if (z (423 + 3 * (40 * v + k) + 0)) = (nI (1)) then (svR z ro s) else ro
def F_5reject_sv (v : Nat) (k : Nat) (s : Nat) (z : Nat → Int32) (sv : Int32) : Int32 := if (z (423 + 3 * (40 * v + k) + 0)) = (nI (1)) then (nI (svN s)) else sv
def F_5reject_th (v : Nat) (k : Nat) (z : Nat → Int32) : Int32 := if (z (423 + 3 * (40 * v + k) + 0)) = (nI (1)) then (nI (0)) else (nI (2))
theorem g_X5_reject_20_4 : ab_oks M_X5_reject [(20, .aload_n 0, 1, 0, 0, 0, .null), (21, .iload_n 1, 1, 1, 0, 0, .null), (22, .iload_n 2, 1, 2, 0, 0, .null), (23, .iconst 0, 1, 0, 0, 0, .int (nI (0)))] = true := by decide +kernel
theorem dc_X5_reject_24 : decode (AM.bytes M_X5_reject) 24 = .ok (.invokevirtual 65, 3) := by decide +kernel
theorem g_X5_reject_27_1 : ab_oks M_X5_reject [(27, .iconst 1, 1, 0, 0, 0, .int (nI (1)))] = true := by decide +kernel
theorem dc_X5_reject_28 : decode (AM.bytes M_X5_reject) 28 = .ok (.if_icmp .eq 9, 3) := by decide +kernel
theorem g_X5_reject_37_1 : ab_oks M_X5_reject [(37, .aload_n 0, 1, 0, 0, 0, .null)] = true := by decide +kernel
theorem dc_X5_reject_38 : decode (AM.bytes M_X5_reject) 38 = .ok (.invokevirtual 55, 3) := by decide +kernel
theorem g_X5_reject_41_12 : ab_oks M_X5_reject [(41, .aload_n 0, 1, 0, 0, 0, .null), (42, .getfield 7, 3, 5, 0, 936, .null), (45, .sipush 423, 3, 0, 0, 0, .int (nI (423))), (48, .iconst 3, 1, 0, 0, 0, .int (nI (3))), (49, .bipush 40, 2, 0, 0, 0, .int (nI (40))), (51, .iload_n 1, 1, 1, 0, 0, .null), (52, .imul, 1, 0, 0, 0, .null), (53, .iload_n 2, 1, 2, 0, 0, .null), (54, .iadd, 1, 0, 0, 0, .null), (55, .imul, 1, 0, 0, 0, .null), (56, .iadd, 1, 0, 0, 0, .null), (57, .iconst 2, 1, 0, 0, 0, .int (nI (2)))] = true := by decide +kernel
theorem ok_X5_reject_58 : ab_ok M_X5_reject (58, .iastore, 1, 0, 0, 0, .null) = true := by decide +kernel
theorem g_X5_reject_59_4 : ab_oks M_X5_reject [(59, .aload_n 0, 1, 0, 0, 0, .null), (60, .getfield 7, 3, 5, 0, 936, .null), (63, .bipush 6, 2, 0, 0, 0, .int (nI (6))), (65, .dup2, 1, 0, 0, 0, .null)] = true := by decide +kernel
theorem ok_X5_reject_66 : ab_ok M_X5_reject (66, .iaload, 1, 0, 0, 0, .null) = true := by decide +kernel
theorem g_X5_reject_67_2 : ab_oks M_X5_reject [(67, .iconst 1, 1, 0, 0, 0, .int (nI (1))), (68, .iadd, 1, 0, 0, 0, .null)] = true := by decide +kernel
theorem ok_X5_reject_69 : ab_ok M_X5_reject (69, .iastore, 1, 0, 0, 0, .null) = true := by decide +kernel
theorem g_X5_reject_70_3 : ab_oks M_X5_reject [(70, .aload_n 0, 1, 0, 0, 0, .null), (71, .iload_n 1, 1, 1, 0, 0, .null), (72, .iconst 2, 1, 0, 0, 0, .int (nI (2)))] = true := by decide +kernel
theorem dc_X5_reject_73 : decode (AM.bytes M_X5_reject) 73 = .ok (.invokevirtual 115, 3) := by decide +kernel
theorem dc_X5_reject_76 : decode (AM.bytes M_X5_reject) 76 = .ok (.ireturn, 1) := by decide +kernel
theorem g_X5_reject_31_2 : ab_oks M_X5_reject [(31, .aload_n 0, 1, 0, 0, 0, .null), (32, .iconst 2, 1, 0, 0, 0, .int (nI (2)))] = true := by decide +kernel
theorem dc_X5_reject_33 : decode (AM.bytes M_X5_reject) 33 = .ok (.invokevirtual 51, 3) := by decide +kernel
theorem dc_X5_reject_36 : decode (AM.bytes M_X5_reject) 36 = .ok (.ireturn, 1) := by decide +kernel
set_option maxRecDepth 100000 in
set_option maxHeartbeats 4000000 in
theorem s_5reject {E : AE} (d : Nat) (v : Nat) (k : Nat) {nv : Nat} {nc : Nat} {nr : Nat} {ne : Nat} {s : Nat}  {o0 a0 t0 p0 u0 l0 : List AC} {z sa ro te fr to un ga pi be : Nat → Int32} {bm en sta sv ln th : Int32} {hh : Int64} (hZ : ZI z nv nc nr ne) (hs : sv = nI s) (hs6 : s ≤ 6) (hv : v < nv) (hk : k < lv z v) : CT E M_X5_reject (d + 3) [.ref 16384, .int (nI (v)), .int (nI (k))] (hp o0 a0 t0 p0 (mo z sa ro te fr to un ga pi be bm en sta sv ln th hh) u0 l0) (.inl (some (.int (F_5reject v k z)))) (hp o0 a0 t0 p0 (mo (F_5reject_z v k z) sa (F_5reject_ro v k s z ro) te fr to un ga pi be bm en sta (F_5reject_sv v k s z sv) ln (F_5reject_th v k z) hh) u0 l0) 0 0 := by
  obtain ⟨⟨hnv, h12⟩, ⟨hnc, h4⟩, ⟨hnr, h3⟩, ⟨hne, h60⟩, hLV⟩ := id hZ
  have h40 := (hLV v hv).2
  have hl := (hLV v hv).1
  have hLV2 : ∀ (x : Int32), LV (upd (upd z (423 + (3 * ((40 * v) + k))) x) 6 (z 6 + nI 1)) nv := fun x => LV_upd (by omega) (fun v9 _ => by omega) (LV_upd (by omega) (fun v9 _ => by omega) hLV)
  refine CT.of (L := [some (.ref 16384), some (.int (nI (v))), some (.int (nI (k)))]) rfl rfl ?_
  refine AR.run g_X5_reject_0_6 8 [some (.ref 16384), some (.int (nI (v))), some (.int (nI (k)))] [.int (nI (k)), .int (nI (v)), .ref 16384] (hp o0 a0 t0 p0 (mo z sa ro te fr to un ga pi be bm en sta sv ln (nI (0)) hh) u0 l0) [] rfl trivial ?_
  refine AR.callV1 (16384) [.int (nI (v)), .int (nI (k))] [] lk_5_111 dc_X5_reject_8 rfl rfl (s_5isLeafC _ v k (by assumption) (by omega) (by omega)) (by first | rfl | (simp only [nI_add, pk_mul]; first | done | rfl)) rfl ?_
  refine AR.neN (tgt := 20) (a := 1) dc_X5_reject_11 (by decide) (by first | rfl | (simp only [nI_add, pk_mul]; first | done | rfl)) (by omega) (fun c11_1 => ?_) (fun c11_1 => absurd c11_1 (by omega))
  refine AR.run g_X5_reject_20_4 24 [some (.ref 16384), some (.int (nI (v))), some (.int (nI (k)))] [.int (nI (0)), .int (nI (k)), .int (nI (v)), .ref 16384] _ [] rfl trivial ?_
  refine AR.callV1 (16384) [.int (nI (v)), .int (nI (k)), .int (nI (0))] [] lk_5_65 dc_X5_reject_24 rfl rfl (s_ofLeaf _ v k 0 (by omega) (by omega) (by omega)) (by first | rfl | (simp only [nI_add, pk_mul]; first | done | rfl)) rfl ?_
  refine AR.run g_X5_reject_27_1 28 [some (.ref 16384), some (.int (nI (v))), some (.int (nI (k)))] [.int (nI (1)), .int (z (423 + 3 * (40 * v + k) + 0))] _ [] rfl trivial ?_
  refine AR.eq2 (tgt := 37) dc_X5_reject_28 (by decide) (fun c28_2 => ?_) (fun c28_2 => ?_)
  · refine AR.run g_X5_reject_37_1 38 [some (.ref 16384), some (.int (nI (v))), some (.int (nI (k)))] [.ref 16384] _ [] rfl trivial ?_
    refine AR.callV0 (16384) [] [] lk_5_55 dc_X5_reject_38 rfl rfl (s_5save _ (by assumption) (by omega)) (by first | rfl | (simp only [nI_add, pk_mul]; first | done | rfl)) rfl ?_
    refine AR.run g_X5_reject_41_12 58 [some (.ref 16384), some (.int (nI (v))), some (.int (nI (k)))] [.int (nI (2)), .int ((nI (423)) + ((nI (3)) * (((nI (40)) * (nI (v))) + (nI (k))))), .ref 16385] _ [] rfl trivial ?_
    refine AR.ast (n := 0) (e := (423 + (3 * ((40 * v) + k)))) (h1 := (hp o0 a0 t0 p0 (mo (upd z (423 + (3 * ((40 * v) + k))) (nI (2))) sa (svR z ro s) te fr to un ga pi be bm en sta (nI (svN s)) ln (nI (0)) hh) u0 l0)) ok_X5_reject_58 (by first | rfl | (simp only [nI_add, pk_mul]; first | done | rfl)) rfl rfl (by omega) (by decide) rfl ?_
    refine AR.run g_X5_reject_59_4 66 [some (.ref 16384), some (.int (nI (v))), some (.int (nI (k)))] [.int (nI (6)), .ref 16385, .int (nI (6)), .ref 16385] _ [] rfl trivial ?_
    refine AR.ald (n := 0) (e := 6) ok_X5_reject_66 (by first | rfl | (simp only [nI_add, pk_mul]; first | done | rfl)) rfl (by omega) (by first | decide | omega) ?_
    refine AR.top (y := z 6) (by show (upd z (423 + (3 * ((40 * v) + k))) (nI (2))) 6 = _; rw [rn (by omega)]) ?_
    refine AR.run g_X5_reject_67_2 69 [some (.ref 16384), some (.int (nI (v))), some (.int (nI (k)))] [.int ((z 6) + (nI (1))), .int (nI (6)), .ref 16385] _ [] rfl trivial ?_
    refine AR.ast (n := 0) (e := 6) (h1 := (hp o0 a0 t0 p0 (mo (upd (upd z (423 + (3 * ((40 * v) + k))) (nI (2))) 6 ((z 6) + (nI (1)))) sa (svR z ro s) te fr to un ga pi be bm en sta (nI (svN s)) ln (nI (0)) hh) u0 l0)) ok_X5_reject_69 (by first | rfl | (simp only [nI_add, pk_mul]; first | done | rfl)) rfl rfl (by omega) (by decide) rfl ?_
    refine AR.run g_X5_reject_70_3 73 [some (.ref 16384), some (.int (nI (v))), some (.int (nI (k)))] [.int (nI (2)), .int (nI (v)), .ref 16384] _ [] rfl trivial ?_
    refine AR.callV1 (16384) [.int (nI (v)), .int (nI (2))] [] lk_5_115 dc_X5_reject_73 rfl rfl (s_5leavesWith _ v (nI (2)) (by omega) (by first | assumption | exact (hLV v (by omega)).1 | exact (hLV2 _ v (by omega)).1) (by first | assumption | exact (hLV v (by omega)).2 | exact (hLV2 _ v (by omega)).2)) (by first | rfl | (simp only [nI_add, pk_mul]; first | done | rfl)) rfl ?_
    have e3_0 : F_5reject v k z = (L_5leavesWith_5 v (nI (2)) (upd (upd z (423 + (3 * ((40 * v) + k))) (nI (2))) 6 ((z 6) + (nI (1)))) (lv (upd (upd z (423 + (3 * ((40 * v) + k))) (nI (2))) 6 ((z 6) + (nI (1)))) v)) := by rw [F_5reject, if_pos c28_2]
    have e3_1 : F_5reject_z v k z = (upd (upd z (423 + (3 * ((40 * v) + k))) (nI (2))) 6 ((z 6) + (nI (1)))) := by rw [F_5reject_z, if_pos c28_2]
    have e3_2 : F_5reject_ro v k s z ro = (svR z ro s) := by rw [F_5reject_ro, if_pos c28_2]
    have e3_3 : F_5reject_sv v k s z sv = (nI (svN s)) := by rw [F_5reject_sv, if_pos c28_2]
    have e3_4 : F_5reject_th v k z = (nI (0)) := by rw [F_5reject_th, if_pos c28_2]
    exact AR.retI dc_X5_reject_76 rfl e3_0.symm (by rw [e3_1, e3_2, e3_3, e3_4])
  · refine AR.run g_X5_reject_31_2 33 [some (.ref 16384), some (.int (nI (v))), some (.int (nI (k)))] [.int (nI (2)), .ref 16384] _ [] rfl trivial ?_
    refine AR.callV1 (16384) [.int (nI (2))] [] lk_5_51 dc_X5_reject_33 rfl rfl (s_fails _ (nI (2)) ) (by first | rfl | (simp only [nI_add, pk_mul]; first | done | rfl)) rfl ?_
    have e4_0 : F_5reject v k z = (nI (0)) := by rw [F_5reject, if_neg c28_2]
    have e4_1 : F_5reject_z v k z = z := by rw [F_5reject_z, if_neg c28_2]
    have e4_2 : F_5reject_ro v k s z ro = ro := by rw [F_5reject_ro, if_neg c28_2]
    have e4_3 : F_5reject_sv v k s z sv = sv := by rw [F_5reject_sv, if_neg c28_2]
    have e4_4 : F_5reject_th v k z = (nI (2)) := by rw [F_5reject_th, if_neg c28_2]
    exact AR.retI dc_X5_reject_36 rfl e4_0.symm (by rw [e4_1, e4_2, e4_3, e4_4])
def F_5leafA : Int32 := (nI (0))
theorem F_5leafA_01 : F_5leafA  = nI 0 ∨ F_5leafA  = nI 1 := by
  unfold F_5leafA
  (repeat' split) <;> first | exact Or.inl rfl | exact Or.inr rfl | exact wi01 _ _ _
def F_5leafA_th : Int32 := (nI (1))
theorem g_X5_leaf_0_6 : ab_oks M_X5_leaf [(0, .aload_n 0, 1, 0, 0, 0, .null), (1, .iconst 0, 1, 0, 0, 0, .int (nI (0))), (2, .putfield 40, 3, 5, 15, 951, .null), (5, .aload_n 0, 1, 0, 0, 0, .null), (6, .iload_n 1, 1, 1, 0, 0, .null), (7, .iload_n 2, 1, 2, 0, 0, .null)] = true := by decide +kernel
theorem dc_X5_leaf_8 : decode (AM.bytes M_X5_leaf) 8 = .ok (.invokevirtual 111, 3) := by decide +kernel
theorem dc_X5_leaf_11 : decode (AM.bytes M_X5_leaf) 11 = .ok (.ifCond .ne 9, 3) := by decide +kernel
theorem g_X5_leaf_14_2 : ab_oks M_X5_leaf [(14, .aload_n 0, 1, 0, 0, 0, .null), (15, .iconst 1, 1, 0, 0, 0, .int (nI (1)))] = true := by decide +kernel
theorem dc_X5_leaf_16 : decode (AM.bytes M_X5_leaf) 16 = .ok (.invokevirtual 51, 3) := by decide +kernel
theorem dc_X5_leaf_19 : decode (AM.bytes M_X5_leaf) 19 = .ok (.ireturn, 1) := by decide +kernel
set_option maxRecDepth 100000 in
set_option maxHeartbeats 4000000 in
theorem s_5leafA {E : AE} (d : Nat) (x : Int32) (y : Int32) (w : Int32) {nv : Nat} {nc : Nat} {nr : Nat} {ne : Nat}  {o0 a0 t0 p0 u0 l0 : List AC} {z sa ro te fr to un ga pi be : Nat → Int32} {bm en sta sv ln th : Int32} {hh : Int64} (hZ : ZI z nv nc nr ne) (hbad : ¬ ∃ q9 : Nat, q9 < nv ∧ x = nI q9) : CT E M_X5_leaf (d + 3) [.ref 16384, .int (x), .int (y), .int (w)] (hp o0 a0 t0 p0 (mo z sa ro te fr to un ga pi be bm en sta sv ln th hh) u0 l0) (.inl (some (.int (F_5leafA)))) (hp o0 a0 t0 p0 (mo z sa ro te fr to un ga pi be bm en sta sv ln F_5leafA_th hh) u0 l0) 0 0 := by
  obtain ⟨⟨hnv, h12⟩, ⟨hnc, h4⟩, ⟨hnr, h3⟩, ⟨hne, h60⟩, hLV⟩ := id hZ
  refine CT.of (L := [some (.ref 16384), some (.int (x)), some (.int (y)), some (.int (w))]) rfl rfl ?_
  refine AR.run g_X5_leaf_0_6 8 [some (.ref 16384), some (.int (x)), some (.int (y)), some (.int (w))] [.int (y), .int (x), .ref 16384] (hp o0 a0 t0 p0 (mo z sa ro te fr to un ga pi be bm en sta sv ln (nI (0)) hh) u0 l0) [] rfl trivial ?_
  refine AR.callV1 (16384) [.int (x), .int (y)] [] lk_5_111 dc_X5_leaf_8 rfl rfl (s_5isLeafA _ x y (by assumption) (by assumption)) (by first | rfl | (simp only [nI_add, pk_mul]; first | done | rfl)) rfl ?_
  refine AR.neN (tgt := 20) (a := 0) dc_X5_leaf_11 (by decide) (by first | rfl | (simp only [nI_add, pk_mul]; first | done | rfl)) (by omega) (fun c11_1 => absurd c11_1 (by omega)) (fun c11_1 => ?_)
  refine AR.run g_X5_leaf_14_2 16 [some (.ref 16384), some (.int (x)), some (.int (y)), some (.int (w))] [.int (nI (1)), .ref 16384] _ [] rfl trivial ?_
  refine AR.callV1 (16384) [.int (nI (1))] [] lk_5_51 dc_X5_leaf_16 rfl rfl (s_fails _ (nI (1)) ) (by first | rfl | (simp only [nI_add, pk_mul]; first | done | rfl)) rfl ?_
  have e2_0 : F_5leafA = (nI (0)) := by rw [F_5leafA]
  have e2_1 : F_5leafA_th = (nI (1)) := by rw [F_5leafA_th]
  exact AR.retI dc_X5_leaf_19 rfl e2_0.symm (by rw [e2_1])
def F_5leafB : Int32 := (nI (0))
theorem F_5leafB_01 : F_5leafB  = nI 0 ∨ F_5leafB  = nI 1 := by
  unfold F_5leafB
  (repeat' split) <;> first | exact Or.inl rfl | exact Or.inr rfl | exact wi01 _ _ _
def F_5leafB_th : Int32 := (nI (1))
set_option maxRecDepth 100000 in
set_option maxHeartbeats 4000000 in
theorem s_5leafB {E : AE} (d : Nat) (v : Nat) (x : Int32) (w : Int32) {nv : Nat} {nc : Nat} {nr : Nat} {ne : Nat}  {o0 a0 t0 p0 u0 l0 : List AC} {z sa ro te fr to un ga pi be : Nat → Int32} {bm en sta sv ln th : Int32} {hh : Int64} (hZ : ZI z nv nc nr ne) (hv : v < nv) (hbad : ¬ ∃ q9 : Nat, q9 < lv z v ∧ x = nI q9) : CT E M_X5_leaf (d + 3) [.ref 16384, .int (nI (v)), .int (x), .int (w)] (hp o0 a0 t0 p0 (mo z sa ro te fr to un ga pi be bm en sta sv ln th hh) u0 l0) (.inl (some (.int (F_5leafB)))) (hp o0 a0 t0 p0 (mo z sa ro te fr to un ga pi be bm en sta sv ln F_5leafB_th hh) u0 l0) 0 0 := by
  obtain ⟨⟨hnv, h12⟩, ⟨hnc, h4⟩, ⟨hnr, h3⟩, ⟨hne, h60⟩, hLV⟩ := id hZ
  refine CT.of (L := [some (.ref 16384), some (.int (nI (v))), some (.int (x)), some (.int (w))]) rfl rfl ?_
  refine AR.run g_X5_leaf_0_6 8 [some (.ref 16384), some (.int (nI (v))), some (.int (x)), some (.int (w))] [.int (x), .int (nI (v)), .ref 16384] (hp o0 a0 t0 p0 (mo z sa ro te fr to un ga pi be bm en sta sv ln (nI (0)) hh) u0 l0) [] rfl trivial ?_
  refine AR.callV1 (16384) [.int (nI (v)), .int (x)] [] lk_5_111 dc_X5_leaf_8 rfl rfl (s_5isLeafB _ v x (by assumption) (by omega) (by assumption)) (by first | rfl | (simp only [nI_add, pk_mul]; first | done | rfl)) rfl ?_
  refine AR.neN (tgt := 20) (a := 0) dc_X5_leaf_11 (by decide) (by first | rfl | (simp only [nI_add, pk_mul]; first | done | rfl)) (by omega) (fun c11_1 => absurd c11_1 (by omega)) (fun c11_1 => ?_)
  refine AR.run g_X5_leaf_14_2 16 [some (.ref 16384), some (.int (nI (v))), some (.int (x)), some (.int (w))] [.int (nI (1)), .ref 16384] _ [] rfl trivial ?_
  refine AR.callV1 (16384) [.int (nI (1))] [] lk_5_51 dc_X5_leaf_16 rfl rfl (s_fails _ (nI (1)) ) (by first | rfl | (simp only [nI_add, pk_mul]; first | done | rfl)) rfl ?_
  have e2_0 : F_5leafB = (nI (0)) := by rw [F_5leafB]
  have e2_1 : F_5leafB_th = (nI (1)) := by rw [F_5leafB_th]
  exact AR.retI dc_X5_leaf_19 rfl e2_0.symm (by rw [e2_1])
def F_5leafC : Int32 := (nI (0))
theorem F_5leafC_01 : F_5leafC  = nI 0 ∨ F_5leafC  = nI 1 := by
  unfold F_5leafC
  (repeat' split) <;> first | exact Or.inl rfl | exact Or.inr rfl | exact wi01 _ _ _
def F_5leafC_th : Int32 := (nI (2))
theorem g_X5_leaf_20_3 : ab_oks M_X5_leaf [(20, .iload_n 3, 1, 3, 0, 0, .null), (21, .iconst 0, 1, 0, 0, 0, .int (nI (0))), (22, .iconst 3, 1, 0, 0, 0, .int (nI (3)))] = true := by decide +kernel
theorem dc_X5_leaf_23 : decode (AM.bytes M_X5_leaf) 23 = .ok (.invokestatic 44, 3) := by decide +kernel
theorem dc_X5_leaf_26 : decode (AM.bytes M_X5_leaf) 26 = .ok (.ifCond .eq 13, 3) := by decide +kernel
theorem g_X5_leaf_39_2 : ab_oks M_X5_leaf [(39, .aload_n 0, 1, 0, 0, 0, .null), (40, .iconst 2, 1, 0, 0, 0, .int (nI (2)))] = true := by decide +kernel
theorem dc_X5_leaf_41 : decode (AM.bytes M_X5_leaf) 41 = .ok (.invokevirtual 51, 3) := by decide +kernel
theorem dc_X5_leaf_44 : decode (AM.bytes M_X5_leaf) 44 = .ok (.ireturn, 1) := by decide +kernel
set_option maxRecDepth 100000 in
set_option maxHeartbeats 4000000 in
theorem s_5leafC {E : AE} (d : Nat) (v : Nat) (k : Nat) (x : Int32) {nv : Nat} {nc : Nat} {nr : Nat} {ne : Nat}  {o0 a0 t0 p0 u0 l0 : List AC} {z sa ro te fr to un ga pi be : Nat → Int32} {bm en sta sv ln th : Int32} {hh : Int64} (hZ : ZI z nv nc nr ne) (hv : v < nv) (hk : k < lv z v) (hx : wi x (nI 0) (nI 3) = nI 0) : CT E M_X5_leaf (d + 3) [.ref 16384, .int (nI (v)), .int (nI (k)), .int (x)] (hp o0 a0 t0 p0 (mo z sa ro te fr to un ga pi be bm en sta sv ln th hh) u0 l0) (.inl (some (.int (F_5leafC)))) (hp o0 a0 t0 p0 (mo z sa ro te fr to un ga pi be bm en sta sv ln F_5leafC_th hh) u0 l0) 0 0 := by
  obtain ⟨⟨hnv, h12⟩, ⟨hnc, h4⟩, ⟨hnr, h3⟩, ⟨hne, h60⟩, hLV⟩ := id hZ
  have h40 := (hLV v hv).2
  refine CT.of (L := [some (.ref 16384), some (.int (nI (v))), some (.int (nI (k))), some (.int (x))]) rfl rfl ?_
  refine AR.run g_X5_leaf_0_6 8 [some (.ref 16384), some (.int (nI (v))), some (.int (nI (k))), some (.int (x))] [.int (nI (k)), .int (nI (v)), .ref 16384] (hp o0 a0 t0 p0 (mo z sa ro te fr to un ga pi be bm en sta sv ln (nI (0)) hh) u0 l0) [] rfl trivial ?_
  refine AR.callV1 (16384) [.int (nI (v)), .int (nI (k))] [] lk_5_111 dc_X5_leaf_8 rfl rfl (s_5isLeafC _ v k (by assumption) (by omega) (by omega)) (by first | rfl | (simp only [nI_add, pk_mul]; first | done | rfl)) rfl ?_
  refine AR.neN (tgt := 20) (a := 1) dc_X5_leaf_11 (by decide) (by first | rfl | (simp only [nI_add, pk_mul]; first | done | rfl)) (by omega) (fun c11_1 => ?_) (fun c11_1 => absurd c11_1 (by omega))
  refine AR.run g_X5_leaf_20_3 23 [some (.ref 16384), some (.int (nI (v))), some (.int (nI (k))), some (.int (x))] [.int (nI (3)), .int (nI (0)), .int (x)] _ [] rfl trivial ?_
  refine AR.callS1 [.int (x), .int (nI (0)), .int (nI (3))] [] lk_5_44 dc_X5_leaf_23 (s_within _ x (nI (0)) (nI (3)) ) (by first | rfl | (simp only [nI_add, pk_mul]; first | done | rfl)) rfl ?_
  refine AR.top hx ?_
  refine AR.eqN (tgt := 39) (a := 0) dc_X5_leaf_26 (by decide) (by first | rfl | (simp only [nI_add, pk_mul]; first | done | rfl)) (by omega) (fun c26_2 => ?_) (fun c26_2 => absurd c26_2 (by omega))
  refine AR.run g_X5_leaf_39_2 41 [some (.ref 16384), some (.int (nI (v))), some (.int (nI (k))), some (.int (x))] [.int (nI (2)), .ref 16384] _ [] rfl trivial ?_
  refine AR.callV1 (16384) [.int (nI (2))] [] lk_5_51 dc_X5_leaf_41 rfl rfl (s_fails _ (nI (2)) ) (by first | rfl | (simp only [nI_add, pk_mul]; first | done | rfl)) rfl ?_
  have e3_0 : F_5leafC = (nI (0)) := by rw [F_5leafC]
  have e3_1 : F_5leafC_th = (nI (2)) := by rw [F_5leafC_th]
  exact AR.retI dc_X5_leaf_44 rfl e3_0.symm (by rw [e3_1])
def F_5leaf (v : Nat) (k : Nat) (w : Nat) (z : Nat → Int32) : Int32 := (F_5leafNow v k w z)
def F_5leaf_th : Int32 := (nI (0))
theorem g_X5_leaf_29_4 : ab_oks M_X5_leaf [(29, .aload_n 0, 1, 0, 0, 0, .null), (30, .iload_n 1, 1, 1, 0, 0, .null), (31, .iload_n 2, 1, 2, 0, 0, .null), (32, .iload_n 3, 1, 3, 0, 0, .null)] = true := by decide +kernel
theorem dc_X5_leaf_33 : decode (AM.bytes M_X5_leaf) 33 = .ok (.invokevirtual 164, 3) := by decide +kernel
theorem g_X5_leaf_36_1 : ab_oks M_X5_leaf [(36, .goto 8, 3, 44, 0, 0, .null)] = true := by decide +kernel
set_option maxRecDepth 100000 in
set_option maxHeartbeats 4000000 in
theorem s_5leaf {E : AE} (d : Nat) (v : Nat) (k : Nat) (w : Nat) {nv : Nat} {nc : Nat} {nr : Nat} {ne : Nat}  {o0 a0 t0 p0 u0 l0 : List AC} {z sa ro te fr to un ga pi be : Nat → Int32} {bm en sta sv ln th : Int32} {hh : Int64} (hZ : ZI z nv nc nr ne) (hv : v < nv) (hk : k < lv z v) (hw : w < 4) : CT E M_X5_leaf (d + 3) [.ref 16384, .int (nI (v)), .int (nI (k)), .int (nI (w))] (hp o0 a0 t0 p0 (mo z sa ro te fr to un ga pi be bm en sta sv ln th hh) u0 l0) (.inl (some (.int (F_5leaf v k w z)))) (hp o0 a0 t0 p0 (mo z sa ro te fr to un ga pi be bm en sta sv ln F_5leaf_th hh) u0 l0) 0 0 := by
  obtain ⟨⟨hnv, h12⟩, ⟨hnc, h4⟩, ⟨hnr, h3⟩, ⟨hne, h60⟩, hLV⟩ := id hZ
  have h40 := (hLV v hv).2
  refine CT.of (L := [some (.ref 16384), some (.int (nI (v))), some (.int (nI (k))), some (.int (nI (w)))]) rfl rfl ?_
  refine AR.run g_X5_leaf_0_6 8 [some (.ref 16384), some (.int (nI (v))), some (.int (nI (k))), some (.int (nI (w)))] [.int (nI (k)), .int (nI (v)), .ref 16384] (hp o0 a0 t0 p0 (mo z sa ro te fr to un ga pi be bm en sta sv ln (nI (0)) hh) u0 l0) [] rfl trivial ?_
  refine AR.callV1 (16384) [.int (nI (v)), .int (nI (k))] [] lk_5_111 dc_X5_leaf_8 rfl rfl (s_5isLeafC _ v k (by assumption) (by omega) (by omega)) (by first | rfl | (simp only [nI_add, pk_mul]; first | done | rfl)) rfl ?_
  refine AR.neN (tgt := 20) (a := 1) dc_X5_leaf_11 (by decide) (by first | rfl | (simp only [nI_add, pk_mul]; first | done | rfl)) (by omega) (fun c11_1 => ?_) (fun c11_1 => absurd c11_1 (by omega))
  refine AR.run g_X5_leaf_20_3 23 [some (.ref 16384), some (.int (nI (v))), some (.int (nI (k))), some (.int (nI (w)))] [.int (nI (3)), .int (nI (0)), .int (nI (w))] _ [] rfl trivial ?_
  refine AR.callS1 [.int (nI (w)), .int (nI (0)), .int (nI (3))] [] lk_5_44 dc_X5_leaf_23 (s_within _ (nI (w)) (nI (0)) (nI (3)) ) (by first | rfl | (simp only [nI_add, pk_mul]; first | done | rfl)) rfl ?_
  refine AR.top (wiN_t (by omega) (by omega) (by decide)) ?_
  refine AR.eqN (tgt := 39) (a := 1) dc_X5_leaf_26 (by decide) (by first | rfl | (simp only [nI_add, pk_mul]; first | done | rfl)) (by omega) (fun c26_2 => absurd c26_2 (by omega)) (fun c26_2 => ?_)
  refine AR.run g_X5_leaf_29_4 33 [some (.ref 16384), some (.int (nI (v))), some (.int (nI (k))), some (.int (nI (w)))] [.int (nI (w)), .int (nI (k)), .int (nI (v)), .ref 16384] _ [] rfl trivial ?_
  refine AR.callV1 (16384) [.int (nI (v)), .int (nI (k)), .int (nI (w))] [] lk_5_164 dc_X5_leaf_33 rfl rfl (s_5leafNow _ v k w (by omega) (by omega) (by omega)) (by first | rfl | (simp only [nI_add, pk_mul]; first | done | rfl)) rfl ?_
  refine AR.run g_X5_leaf_36_1 44 [some (.ref 16384), some (.int (nI (v))), some (.int (nI (k))), some (.int (nI (w)))] [.int (F_5leafNow v k w z)] _ [] rfl trivial ?_
  have e3_0 : F_5leaf v k w z = (F_5leafNow v k w z) := by rw [F_5leaf]
  have e3_1 : F_5leaf_th = (nI (0)) := by rw [F_5leaf_th]
  exact AR.retI dc_X5_leaf_44 rfl e3_0.symm (by rw [e3_1])
def F_5append (c : Int32) (q : Nat) : Int32 := if (wi c (nI (33)) (nI (126))) = 0 then (nI (0)) else if q = 60 then (nI (0)) else ((nI (q)) + (nI (1)))
def F_5append_te (c : Int32) (q : Nat) (te : Nat → Int32) : Nat → Int32 := if (wi c (nI (33)) (nI (126))) = 0 then te else if q = 60 then te else (upd te q c)
def F_5append_ln (c : Int32) (q : Nat) (ln : Int32) : Int32 := if (wi c (nI (33)) (nI (126))) = 0 then ln else if q = 60 then ln else ((nI (q)) + (nI (1)))
def F_5append_th (c : Int32) (q : Nat) : Int32 := if (wi c (nI (33)) (nI (126))) = 0 then (nI (1)) else if q = 60 then (nI (2)) else (nI (0))
theorem g_X5_append_0_6 : ab_oks M_X5_append [(0, .aload_n 0, 1, 0, 0, 0, .null), (1, .iconst 0, 1, 0, 0, 0, .int (nI (0))), (2, .putfield 40, 3, 5, 15, 951, .null), (5, .iload_n 1, 1, 1, 0, 0, .null), (6, .bipush 33, 2, 0, 0, 0, .int (nI (33))), (8, .bipush 126, 2, 0, 0, 0, .int (nI (126)))] = true := by decide +kernel
theorem dc_X5_append_10 : decode (AM.bytes M_X5_append) 10 = .ok (.invokestatic 44, 3) := by decide +kernel
theorem dc_X5_append_13 : decode (AM.bytes M_X5_append) 13 = .ok (.ifCond .ne 9, 3) := by decide +kernel
theorem g_X5_append_22_2 : ab_oks M_X5_append [(22, .aload_n 0, 1, 0, 0, 0, .null), (23, .getfield 118, 3, 5, 14, 950, .null)] = true := by decide +kernel
theorem g_X5_append_26_1 : ab_oks M_X5_append [(26, .bipush 60, 2, 0, 0, 0, .int (nI (60)))] = true := by decide +kernel
theorem dc_X5_append_28 : decode (AM.bytes M_X5_append) 28 = .ok (.if_icmp .ne 9, 3) := by decide +kernel
theorem g_X5_append_37_4 : ab_oks M_X5_append [(37, .aload_n 0, 1, 0, 0, 0, .null), (38, .getfield 19, 3, 5, 3, 939, .null), (41, .aload_n 0, 1, 0, 0, 0, .null), (42, .getfield 118, 3, 5, 14, 950, .null)] = true := by decide +kernel
theorem g_X5_append_45_1 : ab_oks M_X5_append [(45, .iload_n 1, 1, 1, 0, 0, .null)] = true := by decide +kernel
theorem ok_X5_append_46 : ab_ok M_X5_append (46, .iastore, 1, 0, 0, 0, .null) = true := by decide +kernel
theorem g_X5_append_47_3 : ab_oks M_X5_append [(47, .aload_n 0, 1, 0, 0, 0, .null), (48, .dup, 1, 0, 0, 0, .null), (49, .getfield 118, 3, 5, 14, 950, .null)] = true := by decide +kernel
theorem g_X5_append_52_5 : ab_oks M_X5_append [(52, .iconst 1, 1, 0, 0, 0, .int (nI (1))), (53, .iadd, 1, 0, 0, 0, .null), (54, .putfield 118, 3, 5, 14, 950, .null), (57, .aload_n 0, 1, 0, 0, 0, .null), (58, .getfield 118, 3, 5, 14, 950, .null)] = true := by decide +kernel
theorem dc_X5_append_61 : decode (AM.bytes M_X5_append) 61 = .ok (.ireturn, 1) := by decide +kernel
theorem g_X5_append_31_2 : ab_oks M_X5_append [(31, .aload_n 0, 1, 0, 0, 0, .null), (32, .iconst 2, 1, 0, 0, 0, .int (nI (2)))] = true := by decide +kernel
theorem dc_X5_append_33 : decode (AM.bytes M_X5_append) 33 = .ok (.invokevirtual 51, 3) := by decide +kernel
theorem dc_X5_append_36 : decode (AM.bytes M_X5_append) 36 = .ok (.ireturn, 1) := by decide +kernel
theorem g_X5_append_16_2 : ab_oks M_X5_append [(16, .aload_n 0, 1, 0, 0, 0, .null), (17, .iconst 1, 1, 0, 0, 0, .int (nI (1)))] = true := by decide +kernel
theorem dc_X5_append_18 : decode (AM.bytes M_X5_append) 18 = .ok (.invokevirtual 51, 3) := by decide +kernel
theorem dc_X5_append_21 : decode (AM.bytes M_X5_append) 21 = .ok (.ireturn, 1) := by decide +kernel
set_option maxRecDepth 100000 in
set_option maxHeartbeats 4000000 in
theorem s_5append {E : AE} (d : Nat) (c : Int32) {q : Nat}  {o0 a0 t0 p0 u0 l0 : List AC} {z sa ro te fr to un ga pi be : Nat → Int32} {bm en sta sv ln th : Int32} {hh : Int64} (hln : ln = nI q) (hq : q ≤ 60) : CT E M_X5_append (d + 1) [.ref 16384, .int (c)] (hp o0 a0 t0 p0 (mo z sa ro te fr to un ga pi be bm en sta sv ln th hh) u0 l0) (.inl (some (.int (F_5append c q)))) (hp o0 a0 t0 p0 (mo z sa ro (F_5append_te c q te) fr to un ga pi be bm en sta sv (F_5append_ln c q ln) (F_5append_th c q) hh) u0 l0) 0 0 := by
  refine CT.of (L := [some (.ref 16384), some (.int (c))]) rfl rfl ?_
  refine AR.run g_X5_append_0_6 10 [some (.ref 16384), some (.int (c))] [.int (nI (126)), .int (nI (33)), .int (c)] (hp o0 a0 t0 p0 (mo z sa ro te fr to un ga pi be bm en sta sv ln (nI (0)) hh) u0 l0) [] rfl trivial ?_
  refine AR.callS1 [.int (c), .int (nI (33)), .int (nI (126))] [] lk_5_44 dc_X5_append_10 (s_within _ c (nI (33)) (nI (126)) ) (by first | rfl | (simp only [nI_add, pk_mul]; first | done | rfl)) rfl ?_
  refine AR.ne (tgt := 22) dc_X5_append_13 (by decide) (fun c13_1 => ?_) (fun c13_1 => ?_)
  · refine AR.run g_X5_append_22_2 26 [some (.ref 16384), some (.int (c))] [.int (ln)] _ [] rfl trivial ?_
    refine AR.top hln ?_
    refine AR.run g_X5_append_26_1 28 [some (.ref 16384), some (.int (c))] [.int (nI (60)), .int (nI (q))] _ [] rfl trivial ?_
    refine AR.ne2N (tgt := 37) (a := q) (b := 60) dc_X5_append_28 (by decide) (by first | rfl | (simp only [nI_add, pk_mul]; first | done | rfl)) (by first | rfl | (simp only [nI_add, pk_mul]; first | done | rfl)) (by omega) (by omega) (fun c28_2 => ?_) (fun c28_2 => ?_)
    · refine AR.run g_X5_append_37_4 45 [some (.ref 16384), some (.int (c))] [.int (ln), .ref 16388] _ [] rfl trivial ?_
      refine AR.top hln ?_
      refine AR.run g_X5_append_45_1 46 [some (.ref 16384), some (.int (c))] [.int (c), .int (nI (q)), .ref 16388] _ [] rfl trivial ?_
      refine AR.ast (n := 0) (e := q) (h1 := (hp o0 a0 t0 p0 (mo z sa ro (upd te q c) fr to un ga pi be bm en sta sv ln (nI (0)) hh) u0 l0)) ok_X5_append_46 (by first | rfl | (simp only [nI_add, pk_mul]; first | done | rfl)) rfl rfl (by omega) (by decide) rfl ?_
      refine AR.run g_X5_append_47_3 52 [some (.ref 16384), some (.int (c))] [.int (ln), .ref 16384] _ [] rfl trivial ?_
      refine AR.top hln ?_
      refine AR.run g_X5_append_52_5 61 [some (.ref 16384), some (.int (c))] [.int ((nI (q)) + (nI (1)))] (hp o0 a0 t0 p0 (mo z sa ro (upd te q c) fr to un ga pi be bm en sta sv ((nI (q)) + (nI (1))) (nI (0)) hh) u0 l0) [] rfl trivial ?_
      have e3_0 : F_5append c q = ((nI (q)) + (nI (1))) := by rw [F_5append, if_neg c13_1, if_neg (show ¬ (q = 60) from by omega)]
      have e3_1 : F_5append_te c q te = (upd te q c) := by rw [F_5append_te, if_neg c13_1, if_neg (show ¬ (q = 60) from by omega)]
      have e3_2 : F_5append_ln c q ln = ((nI (q)) + (nI (1))) := by rw [F_5append_ln, if_neg c13_1, if_neg (show ¬ (q = 60) from by omega)]
      have e3_3 : F_5append_th c q = (nI (0)) := by rw [F_5append_th, if_neg c13_1, if_neg (show ¬ (q = 60) from by omega)]
      exact AR.retI dc_X5_append_61 rfl e3_0.symm (by rw [e3_1, e3_2, e3_3])
    · refine AR.run g_X5_append_31_2 33 [some (.ref 16384), some (.int (c))] [.int (nI (2)), .ref 16384] _ [] rfl trivial ?_
      refine AR.callV1 (16384) [.int (nI (2))] [] lk_5_51 dc_X5_append_33 rfl rfl (s_fails _ (nI (2)) ) (by first | rfl | (simp only [nI_add, pk_mul]; first | done | rfl)) rfl ?_
      have e4_0 : F_5append c q = (nI (0)) := by rw [F_5append, if_neg c13_1, if_pos (show q = 60 from by omega)]
      have e4_1 : F_5append_te c q te = te := by rw [F_5append_te, if_neg c13_1, if_pos (show q = 60 from by omega)]
      have e4_2 : F_5append_ln c q ln = ln := by rw [F_5append_ln, if_neg c13_1, if_pos (show q = 60 from by omega)]
      have e4_3 : F_5append_th c q = (nI (2)) := by rw [F_5append_th, if_neg c13_1, if_pos (show q = 60 from by omega)]
      exact AR.retI dc_X5_append_36 rfl e4_0.symm (by rw [e4_1, e4_2, e4_3])
  · refine AR.run g_X5_append_16_2 18 [some (.ref 16384), some (.int (c))] [.int (nI (1)), .ref 16384] _ [] rfl trivial ?_
    refine AR.callV1 (16384) [.int (nI (1))] [] lk_5_51 dc_X5_append_18 rfl rfl (s_fails _ (nI (1)) ) (by first | rfl | (simp only [nI_add, pk_mul]; first | done | rfl)) rfl ?_
    have e5_0 : F_5append c q = (nI (0)) := by rw [F_5append, if_pos c13_1]
    have e5_1 : F_5append_te c q te = te := by rw [F_5append_te, if_pos c13_1]
    have e5_2 : F_5append_ln c q ln = ln := by rw [F_5append_ln, if_pos c13_1]
    have e5_3 : F_5append_th c q = (nI (1)) := by rw [F_5append_th, if_pos c13_1]
    exact AR.retI dc_X5_append_21 rfl e5_0.symm (by rw [e5_1, e5_2, e5_3])
def F_5clearBuffer (ln : Int32) : Int32 := ln
def F_5clearBuffer_ln : Int32 := (nI (0))
def F_5clearBuffer_th : Int32 := (nI (0))
theorem g_X5_clearBuffer_0_10 : ab_oks M_X5_clearBuffer [(0, .aload_n 0, 1, 0, 0, 0, .null), (1, .iconst 0, 1, 0, 0, 0, .int (nI (0))), (2, .putfield 40, 3, 5, 15, 951, .null), (5, .aload_n 0, 1, 0, 0, 0, .null), (6, .getfield 118, 3, 5, 14, 950, .null), (9, .istore_n 1, 1, 1, 0, 0, .null), (10, .aload_n 0, 1, 0, 0, 0, .null), (11, .iconst 0, 1, 0, 0, 0, .int (nI (0))), (12, .putfield 118, 3, 5, 14, 950, .null), (15, .iload_n 1, 1, 1, 0, 0, .null)] = true := by decide +kernel
theorem dc_X5_clearBuffer_16 : decode (AM.bytes M_X5_clearBuffer) 16 = .ok (.ireturn, 1) := by decide +kernel
set_option maxRecDepth 100000 in
set_option maxHeartbeats 4000000 in
theorem s_5clearBuffer {E : AE} (d : Nat)  {o0 a0 t0 p0 u0 l0 : List AC} {z sa ro te fr to un ga pi be : Nat → Int32} {bm en sta sv ln th : Int32} {hh : Int64} : CT E M_X5_clearBuffer d [.ref 16384] (hp o0 a0 t0 p0 (mo z sa ro te fr to un ga pi be bm en sta sv ln th hh) u0 l0) (.inl (some (.int (F_5clearBuffer ln)))) (hp o0 a0 t0 p0 (mo z sa ro te fr to un ga pi be bm en sta sv F_5clearBuffer_ln F_5clearBuffer_th hh) u0 l0) 0 0 := by
  refine CT.of (L := [some (.ref 16384), none]) rfl rfl ?_
  refine AR.run g_X5_clearBuffer_0_10 16 [some (.ref 16384), some (.int (ln))] [.int (ln)] (hp o0 a0 t0 p0 (mo z sa ro te fr to un ga pi be bm en sta sv (nI (0)) (nI (0)) hh) u0 l0) [] rfl trivial ?_
  have e1_0 : F_5clearBuffer ln = ln := by rw [F_5clearBuffer]
  have e1_1 : F_5clearBuffer_ln = (nI (0)) := by rw [F_5clearBuffer_ln]
  have e1_2 : F_5clearBuffer_th = (nI (0)) := by rw [F_5clearBuffer_th]
  exact AR.retI dc_X5_clearBuffer_16 rfl e1_0.symm (by rw [e1_1, e1_2])
def B_5undo_30 (s : Nat) (ro : Nat → Int32) (j30 : Nat) (y30_z : Nat → Int32) : (Nat → Int32) := (upd y30_z j30 (ro ((1863 * (s - 1)) + j30)))
def L_5undo_30 (s : Nat) (z : Nat → Int32) (ro : Nat → Int32) : Nat → (Nat → Int32)
  | 0 => z
  | j + 1 => B_5undo_30 s ro j (L_5undo_30 s z ro  j)
def F_5undo (s : Nat) : Int32 := if s = 0 then (nI (0)) else (nI ((s - 1)))
def F_5undo_z (s : Nat) (z : Nat → Int32) (ro : Nat → Int32) : Nat → Int32 := if s = 0 then z else (L_5undo_30 s z ro 1863)
def F_5undo_sv (s : Nat) (sv : Int32) : Int32 := if s = 0 then sv else (nI ((s - 1)))
def F_5undo_th (s : Nat) : Int32 := if s = 0 then (nI (1)) else (nI (0))
theorem g_X5_undo_0_5 : ab_oks M_X5_undo [(0, .aload_n 0, 1, 0, 0, 0, .null), (1, .iconst 0, 1, 0, 0, 0, .int (nI (0))), (2, .putfield 40, 3, 5, 15, 951, .null), (5, .aload_n 0, 1, 0, 0, 0, .null), (6, .getfield 48, 3, 5, 13, 949, .null)] = true := by decide +kernel
theorem dc_X5_undo_9 : decode (AM.bytes M_X5_undo) 9 = .ok (.ifCond .ne 9, 3) := by decide +kernel
theorem g_X5_undo_18_3 : ab_oks M_X5_undo [(18, .aload_n 0, 1, 0, 0, 0, .null), (19, .dup, 1, 0, 0, 0, .null), (20, .getfield 48, 3, 5, 13, 949, .null)] = true := by decide +kernel
theorem g_X5_undo_23_2 : ab_oks M_X5_undo [(23, .iconst 1, 1, 0, 0, 0, .int (nI (1))), (24, .isub, 1, 0, 0, 0, .null)] = true := by decide +kernel
theorem g_X5_undo_25_3 : ab_oks M_X5_undo [(25, .putfield 48, 3, 5, 13, 949, .null), (28, .iconst 0, 1, 0, 0, 0, .int (nI (0))), (29, .istore_n 1, 1, 1, 0, 0, .null)] = true := by decide +kernel
theorem g_X5_undo_30_2 : ab_oks M_X5_undo [(30, .iload_n 1, 1, 1, 0, 0, .null), (31, .sipush 1863, 3, 0, 0, 0, .int (nI (1863)))] = true := by decide +kernel
theorem dc_X5_undo_34 : decode (AM.bytes M_X5_undo) 34 = .ok (.if_icmp .ge 30, 3) := by decide +kernel
theorem g_X5_undo_37_11 : ab_oks M_X5_undo [(37, .aload_n 0, 1, 0, 0, 0, .null), (38, .getfield 7, 3, 5, 0, 936, .null), (41, .iload_n 1, 1, 1, 0, 0, .null), (42, .aload_n 0, 1, 0, 0, 0, .null), (43, .getfield 16, 3, 5, 2, 938, .null), (46, .sipush 1863, 3, 0, 0, 0, .int (nI (1863))), (49, .aload_n 0, 1, 0, 0, 0, .null), (50, .getfield 48, 3, 5, 13, 949, .null), (53, .imul, 1, 0, 0, 0, .null), (54, .iload_n 1, 1, 1, 0, 0, .null), (55, .iadd, 1, 0, 0, 0, .null)] = true := by decide +kernel
theorem ok_X5_undo_56 : ab_ok M_X5_undo (56, .iaload, 1, 0, 0, 0, .null) = true := by decide +kernel
theorem ok_X5_undo_57 : ab_ok M_X5_undo (57, .iastore, 1, 0, 0, 0, .null) = true := by decide +kernel
theorem g_X5_undo_58_2 : ab_oks M_X5_undo [(58, .iinc 1 1, 3, 1, 0, 0, .int (nI (1))), (61, .goto (-31), 3, 30, 0, 0, .null)] = true := by decide +kernel
theorem g_X5_undo_64_2 : ab_oks M_X5_undo [(64, .aload_n 0, 1, 0, 0, 0, .null), (65, .getfield 48, 3, 5, 13, 949, .null)] = true := by decide +kernel
theorem dc_X5_undo_68 : decode (AM.bytes M_X5_undo) 68 = .ok (.ireturn, 1) := by decide +kernel
theorem g_X5_undo_12_2 : ab_oks M_X5_undo [(12, .aload_n 0, 1, 0, 0, 0, .null), (13, .iconst 1, 1, 0, 0, 0, .int (nI (1)))] = true := by decide +kernel
theorem dc_X5_undo_14 : decode (AM.bytes M_X5_undo) 14 = .ok (.invokevirtual 51, 3) := by decide +kernel
theorem dc_X5_undo_17 : decode (AM.bytes M_X5_undo) 17 = .ok (.ireturn, 1) := by decide +kernel
set_option maxRecDepth 100000 in
set_option maxHeartbeats 4000000 in
theorem s_5undo {E : AE} (d : Nat) {s : Nat}  {o0 a0 t0 p0 u0 l0 : List AC} {z sa ro te fr to un ga pi be : Nat → Int32} {bm en sta sv ln th : Int32} {hh : Int64} (hs : sv = nI s) (hs6 : s ≤ 6) : CT E M_X5_undo (d + 1) [.ref 16384] (hp o0 a0 t0 p0 (mo z sa ro te fr to un ga pi be bm en sta sv ln th hh) u0 l0) (.inl (some (.int (F_5undo s)))) (hp o0 a0 t0 p0 (mo (F_5undo_z s z ro) sa ro te fr to un ga pi be bm en sta (F_5undo_sv s sv) ln (F_5undo_th s) hh) u0 l0) 0 0 := by
  refine CT.of (L := [some (.ref 16384), none]) rfl rfl ?_
  refine AR.run g_X5_undo_0_5 9 [some (.ref 16384), none] [.int (sv)] (hp o0 a0 t0 p0 (mo z sa ro te fr to un ga pi be bm en sta sv ln (nI (0)) hh) u0 l0) [] rfl trivial ?_
  refine AR.top hs ?_
  refine AR.neN (tgt := 18) (a := s) dc_X5_undo_9 (by decide) (by first | rfl | (simp only [nI_add, pk_mul]; first | done | rfl)) (by omega) (fun c9_1 => ?_) (fun c9_1 => ?_)
  · refine AR.run g_X5_undo_18_3 23 [some (.ref 16384), none] [.int (sv), .ref 16384] _ [] rfl trivial ?_
    refine AR.top hs ?_
    refine AR.run g_X5_undo_23_2 25 [some (.ref 16384), none] [.int ((nI (s)) - (nI (1))), .ref 16384] _ [] rfl trivial ?_
    refine AR.cast (L' := [some (.ref 16384), none]) (st' := [.int (nI ((s - 1))), .ref 16384]) rfl (by rw [pk_sub (by omega)]) rfl ?_
    refine AR.run g_X5_undo_25_3 30 [some (.ref 16384), some (.int (nI (0)))] [] (hp o0 a0 t0 p0 (mo z sa ro te fr to un ga pi be bm en sta (nI ((s - 1))) ln (nI (0)) hh) u0 l0) [] rfl trivial ?_
    refine AR.cast (L' := [some (.ref 16384), some (.int (nI (0)))]) (by first | rfl | (rw [L_5undo_30])) rfl (by first | rfl | (rw [L_5undo_30])) (AR.loopN 1863 (fun j30 => [some (.ref 16384), some (.int (nI (j30)))]) (fun j30 => (hp o0 a0 t0 p0 (mo (L_5undo_30 s z ro j30) sa ro te fr to un ga pi be bm en sta (nI ((s - 1))) ln (nI (0)) hh) u0 l0)) (fun j30 => True) (fun j30 hj30 hI30 ih30 => ?_) (fun hI30 => ?_) 0 (by omega) (by first | trivial | omega))
    · refine AR.run g_X5_undo_30_2 34 [some (.ref 16384), some (.int (nI (j30)))] [.int (nI (1863)), .int (nI (j30))] _ [] rfl trivial ?_
      refine AR.ge2N (tgt := 64) (a := j30) (b := 1863) dc_X5_undo_34 (by decide) (by first | rfl | (simp only [nI_add, pk_mul]; first | done | rfl)) (by first | rfl | (simp only [nI_add, pk_mul]; first | done | rfl)) (by omega) (by omega) (fun c34_2 => absurd c34_2 (by omega)) (fun c34_2 => ?_)
      refine AR.run g_X5_undo_37_11 56 [some (.ref 16384), some (.int (nI (j30)))] [.int (((nI (1863)) * (nI ((s - 1)))) + (nI (j30))), .ref 16387, .int (nI (j30)), .ref 16385] _ [] rfl trivial ?_
      refine AR.ald (n := 0) (e := ((1863 * (s - 1)) + j30)) ok_X5_undo_56 (by first | rfl | (simp only [nI_add, pk_mul]; first | done | rfl)) rfl (by omega) (by first | decide | omega) ?_
      refine AR.ast (n := 0) (e := j30) (h1 := (hp o0 a0 t0 p0 (mo (upd (L_5undo_30 s z ro j30) j30 (ro ((1863 * (s - 1)) + j30))) sa ro te fr to un ga pi be bm en sta (nI ((s - 1))) ln (nI (0)) hh) u0 l0)) ok_X5_undo_57 (by first | rfl | (simp only [nI_add, pk_mul]; first | done | rfl)) rfl rfl (by omega) (by decide) rfl ?_
      refine AR.run g_X5_undo_58_2 30 [some (.ref 16384), some (.int ((nI (j30)) + (nI (1))))] [] _ [] rfl trivial ?_
      have e3 : L_5undo_30 s z ro (j30 + 1) = (upd (L_5undo_30 s z ro j30) j30 (ro ((1863 * (s - 1)) + j30))) := by rw [L_5undo_30, B_5undo_30]
      exact AR.cast (L' := [some (.ref 16384), some (.int (nI (j30 + 1)))]) (by first | rfl | (rw [nI_add]; done) | (rw [nI_add]; rfl)) rfl (by rw [e3]) (ih30 (by first | trivial | omega))
    · refine AR.run g_X5_undo_30_2 34 [some (.ref 16384), some (.int (nI (1863)))] [.int (nI (1863)), .int (nI (1863))] _ [] rfl trivial ?_
      refine AR.ge2N (tgt := 64) (a := 1863) (b := 1863) dc_X5_undo_34 (by decide) (by first | rfl | (simp only [nI_add, pk_mul]; first | done | rfl)) (by first | rfl | (simp only [nI_add, pk_mul]; first | done | rfl)) (by omega) (by omega) (fun c34_4 => ?_) (fun c34_4 => absurd c34_4 (by omega))
      refine AR.run g_X5_undo_64_2 68 [some (.ref 16384), some (.int (nI (1863)))] [.int (nI ((s - 1)))] _ [] rfl trivial ?_
      have e5_0 : F_5undo s = (nI ((s - 1))) := by rw [F_5undo, if_neg (show ¬ (s = 0) from by omega)]
      have e5_1 : F_5undo_z s z ro = (L_5undo_30 s z ro 1863) := by rw [F_5undo_z, if_neg (show ¬ (s = 0) from by omega)]
      have e5_2 : F_5undo_sv s sv = (nI ((s - 1))) := by rw [F_5undo_sv, if_neg (show ¬ (s = 0) from by omega)]
      have e5_3 : F_5undo_th s = (nI (0)) := by rw [F_5undo_th, if_neg (show ¬ (s = 0) from by omega)]
      exact AR.retI dc_X5_undo_68 rfl e5_0.symm (by rw [e5_1, e5_2, e5_3])
  · refine AR.run g_X5_undo_12_2 14 [some (.ref 16384), none] [.int (nI (1)), .ref 16384] _ [] rfl trivial ?_
    refine AR.callV1 (16384) [.int (nI (1))] [] lk_5_51 dc_X5_undo_14 rfl rfl (s_fails _ (nI (1)) ) (by first | rfl | (simp only [nI_add, pk_mul]; first | done | rfl)) rfl ?_
    have e6_0 : F_5undo s = (nI (0)) := by rw [F_5undo, if_pos (show s = 0 from by omega)]
    have e6_1 : F_5undo_z s z ro = z := by rw [F_5undo_z, if_pos (show s = 0 from by omega)]
    have e6_2 : F_5undo_sv s sv = sv := by rw [F_5undo_sv, if_pos (show s = 0 from by omega)]
    have e6_3 : F_5undo_th s = (nI (1)) := by rw [F_5undo_th, if_pos (show s = 0 from by omega)]
    exact AR.retI dc_X5_undo_17 rfl e6_0.symm (by rw [e6_1, e6_2, e6_3])
