def voG (z : Nat → Int32) (c : Int32) (n : Nat) : Nat := (vo z c n).getD 0
theorem vo_get {z : Nat → Int32} {c : Int32} {n : Nat} (h : ¬ oI (vo z c n) = -1) : vo z c n = some (voG z c n) ∧ voG z c n < n := by
  obtain ⟨q, hq⟩ := oI_ne h
  have h1 : voG z c n = q := by unfold voG; rw [hq]; rfl
  rw [h1]
  exact ⟨hq, (vo_some hq).1⟩
def nlG (z : Nat → Int32) (v n : Nat) : Nat := (nlO z v n).getD 0
theorem nlO_get {z : Nat → Int32} {v n : Nat} (h : ¬ oI (nlO z v n) = -1) : nlO z v n = some (nlG z v n) ∧ nlG z v n < n := by
  obtain ⟨q, hq⟩ := oI_ne h
  have h1 : nlG z v n = q := by unfold nlG; rw [hq]; rfl
  rw [h1]
  have := nlB_some hq
  exact ⟨hq, by omega⟩
/-- NONE or a number below n -/
def QI (n : Nat) (x : Int32) : Prop := x = -1 ∨ ∃ q : Nat, q < n ∧ x = nI q
theorem QI_get {n : Nat} {x : Int32} (hn : n < 2147483648) (h : QI n x) (hx : ¬ x = -1) : x = nI x.toNatClampNeg ∧ x.toNatClampNeg < n := by
  rcases h with e | ⟨q, h1, rfl⟩
  · exact absurd e hx
  · rw [nI_clamp (by omega)]
    exact ⟨rfl, h1⟩
def B_5overAll_4 (w : Nat) (z : Nat → Int32) (j4 : Nat) (x4_2 : Int32) : (Int32) := (x4_2 + (F_5volumeNow j4 w z))
def L_5overAll_4 (w : Nat) (z : Nat → Int32) : Nat → (Int32)
  | 0 => nI (0)
  | j + 1 => B_5overAll_4 w z j (L_5overAll_4 w z  j)
theorem g_X5_overAll_0_4 : ab_oks M_X5_overAll [(0, .iconst 0, 1, 0, 0, 0, .int (nI (0))), (1, .istore_n 2, 1, 2, 0, 0, .null), (2, .iconst 0, 1, 0, 0, 0, .int (nI (0))), (3, .istore_n 3, 1, 3, 0, 0, .null)] = true := by decide +kernel
theorem g_X5_overAll_4_4 : ab_oks M_X5_overAll [(4, .iload_n 3, 1, 3, 0, 0, .null), (5, .aload_n 0, 1, 0, 0, 0, .null), (6, .getfield 7, 3, 5, 0, 936, .null), (9, .iconst 0, 1, 0, 0, 0, .int (nI (0)))] = true := by decide +kernel
theorem ok_X5_overAll_10 : ab_ok M_X5_overAll (10, .iaload, 1, 0, 0, 0, .null) = true := by decide +kernel
theorem dc_X5_overAll_11 : decode (AM.bytes M_X5_overAll) 11 = .ok (.if_icmp .ge 18, 3) := by decide +kernel
theorem g_X5_overAll_14_4 : ab_oks M_X5_overAll [(14, .iload_n 2, 1, 2, 0, 0, .null), (15, .aload_n 0, 1, 0, 0, 0, .null), (16, .iload_n 3, 1, 3, 0, 0, .null), (17, .iload_n 1, 1, 1, 0, 0, .null)] = true := by decide +kernel
theorem lk_5_161 : ab_lkV "LeafCradlesModel" 161 M_X5_volumeNow 2 [1167, 1169, 61, 97, 1170] = true := by decide +kernel
theorem dc_X5_overAll_18 : decode (AM.bytes M_X5_overAll) 18 = .ok (.invokevirtual 161, 3) := by decide +kernel
theorem g_X5_overAll_21_4 : ab_oks M_X5_overAll [(21, .iadd, 1, 0, 0, 0, .null), (22, .istore_n 2, 1, 2, 0, 0, .null), (23, .iinc 3 1, 3, 3, 0, 0, .int (nI (1))), (26, .goto (-22), 3, 4, 0, 0, .null)] = true := by decide +kernel
theorem g_X5_overAll_29_1 : ab_oks M_X5_overAll [(29, .iload_n 2, 1, 2, 0, 0, .null)] = true := by decide +kernel
theorem dc_X5_overAll_30 : decode (AM.bytes M_X5_overAll) 30 = .ok (.ireturn, 1) := by decide +kernel
set_option maxRecDepth 100000 in
set_option maxHeartbeats 4000000 in
theorem s_5overAll {E : AE} (d : Nat) (w : Nat) {nv : Nat} {nc : Nat} {nr : Nat} {ne : Nat}  {o0 a0 t0 p0 u0 l0 : List AC} {z sa ro te fr to un ga pi be : Nat → Int32} {bm en sta sv ln th : Int32} {hh : Int64} (hZ : ZI z nv nc nr ne) (hw : w < 12) : CT E M_X5_overAll (d + 4) [.ref 16384, .int (nI (w))] (hp o0 a0 t0 p0 (mo z sa ro te fr to un ga pi be bm en sta sv ln th hh) u0 l0) (.inl (some (.int (L_5overAll_4 w z nv)))) (hp o0 a0 t0 p0 (mo z sa ro te fr to un ga pi be bm en sta sv ln th hh) u0 l0) 0 0 := by
  obtain ⟨⟨hnv, h12⟩, ⟨hnc, h4⟩, ⟨hnr, h3⟩, ⟨hne, h60⟩, hLV⟩ := id hZ
  refine CT.of (L := [some (.ref 16384), some (.int (nI (w))), none, none]) rfl rfl ?_
  refine AR.run g_X5_overAll_0_4 4 [some (.ref 16384), some (.int (nI (w))), some (.int (nI (0))), some (.int (nI (0)))] [] _ [] rfl trivial ?_
  refine AR.cast (L' := [some (.ref 16384), some (.int (nI (w))), some (.int (L_5overAll_4 w z 0)), some (.int (nI (0)))]) (by first | rfl | (rw [L_5overAll_4])) rfl rfl (AR.loopN nv (fun j4 => [some (.ref 16384), some (.int (nI (w))), some (.int (L_5overAll_4 w z j4)), some (.int (nI (j4)))]) (fun j4 => (hp o0 a0 t0 p0 (mo z sa ro te fr to un ga pi be bm en sta sv ln th hh) u0 l0)) (fun j4 => True) (fun j4 hj4 hI4 ih4 => ?_) (fun hI4 => ?_) 0 (by omega) (by first | trivial | omega))
  · refine AR.run g_X5_overAll_4_4 10 [some (.ref 16384), some (.int (nI (w))), some (.int (L_5overAll_4 w z j4)), some (.int (nI (j4)))] [.int (nI (0)), .ref 16385, .int (nI (j4))] _ [] rfl trivial ?_
    refine AR.ald (n := 0) (e := 0) ok_X5_overAll_10 (by first | rfl | (simp only [nI_add, pk_mul]; first | done | rfl)) rfl (by omega) (by first | decide | omega) ?_
    refine AR.top hZ.1.1 ?_
    refine AR.ge2N (tgt := 29) (a := j4) (b := nv) dc_X5_overAll_11 (by decide) (by first | rfl | (simp only [nI_add, pk_mul]; first | done | rfl)) (by first | rfl | (simp only [nI_add, pk_mul]; first | done | rfl)) (by omega) (by omega) (fun c11_1 => absurd c11_1 (by omega)) (fun c11_1 => ?_)
    refine AR.run g_X5_overAll_14_4 18 [some (.ref 16384), some (.int (nI (w))), some (.int (L_5overAll_4 w z j4)), some (.int (nI (j4)))] [.int (nI (w)), .int (nI (j4)), .ref 16384, .int (L_5overAll_4 w z j4)] _ [] rfl trivial ?_
    refine AR.callV1 (16384) [.int (nI (j4)), .int (nI (w))] [.int (L_5overAll_4 w z j4)] lk_5_161 dc_X5_overAll_18 rfl rfl (s_5volumeNow _ j4 w (by omega) (by first | assumption | exact (hLV j4 (by omega)).1) (by first | assumption | exact (hLV j4 (by omega)).2) (by omega)) (by first | rfl | (simp only [nI_add, pk_mul]; first | done | rfl)) rfl ?_
    refine AR.run g_X5_overAll_21_4 4 [some (.ref 16384), some (.int (nI (w))), some (.int ((L_5overAll_4 w z j4) + (F_5volumeNow j4 w z))), some (.int ((nI (j4)) + (nI (1))))] [] _ [] rfl trivial ?_
    have e2 : L_5overAll_4 w z (j4 + 1) = ((L_5overAll_4 w z j4) + (F_5volumeNow j4 w z)) := by rw [L_5overAll_4, B_5overAll_4]
    exact AR.cast (L' := [some (.ref 16384), some (.int (nI (w))), some (.int (L_5overAll_4 w z (j4 + 1))), some (.int (nI (j4 + 1)))]) (by rw [e2, nI_add]) rfl rfl (ih4 (by first | trivial | omega))
  · refine AR.run g_X5_overAll_4_4 10 [some (.ref 16384), some (.int (nI (w))), some (.int (L_5overAll_4 w z nv)), some (.int (nI (nv)))] [.int (nI (0)), .ref 16385, .int (nI (nv))] _ [] rfl trivial ?_
    refine AR.ald (n := 0) (e := 0) ok_X5_overAll_10 (by first | rfl | (simp only [nI_add, pk_mul]; first | done | rfl)) rfl (by omega) (by first | decide | omega) ?_
    refine AR.top hZ.1.1 ?_
    refine AR.ge2N (tgt := 29) (a := nv) (b := nv) dc_X5_overAll_11 (by decide) (by first | rfl | (simp only [nI_add, pk_mul]; first | done | rfl)) (by first | rfl | (simp only [nI_add, pk_mul]; first | done | rfl)) (by omega) (by omega) (fun c11_3 => ?_) (fun c11_3 => absurd c11_3 (by omega))
    refine AR.run g_X5_overAll_29_1 30 [some (.ref 16384), some (.int (nI (w))), some (.int (L_5overAll_4 w z nv)), some (.int (nI (nv)))] [.int (L_5overAll_4 w z nv)] _ [] rfl trivial ?_
    exact AR.retI dc_X5_overAll_30 rfl rfl rfl
def B_5free_4 (nv : Nat) (z : Nat → Int32) (j4 : Nat) (x4_1 : Int32) : (Int32) := if (oI (vo z (nI (j4)) nv)) = (-1) then (x4_1 + (nI (1))) else (x4_1 + (nI (0)))
def L_5free_4 (nv : Nat) (z : Nat → Int32) : Nat → (Int32)
  | 0 => nI (0)
  | j + 1 => B_5free_4 nv z j (L_5free_4 nv z  j)
theorem g_X5_free_0_4 : ab_oks M_X5_free [(0, .iconst 0, 1, 0, 0, 0, .int (nI (0))), (1, .istore_n 1, 1, 1, 0, 0, .null), (2, .iconst 0, 1, 0, 0, 0, .int (nI (0))), (3, .istore_n 2, 1, 2, 0, 0, .null)] = true := by decide +kernel
theorem g_X5_free_4_4 : ab_oks M_X5_free [(4, .iload_n 2, 1, 2, 0, 0, .null), (5, .aload_n 0, 1, 0, 0, 0, .null), (6, .getfield 7, 3, 5, 0, 936, .null), (9, .iconst 1, 1, 0, 0, 0, .int (nI (1)))] = true := by decide +kernel
theorem ok_X5_free_10 : ab_ok M_X5_free (10, .iaload, 1, 0, 0, 0, .null) = true := by decide +kernel
theorem dc_X5_free_11 : decode (AM.bytes M_X5_free) 11 = .ok (.if_icmp .ge 26, 3) := by decide +kernel
theorem g_X5_free_14_3 : ab_oks M_X5_free [(14, .iload_n 1, 1, 1, 0, 0, .null), (15, .aload_n 0, 1, 0, 0, 0, .null), (16, .iload_n 2, 1, 2, 0, 0, .null)] = true := by decide +kernel
theorem dc_X5_free_17 : decode (AM.bytes M_X5_free) 17 = .ok (.invokevirtual 69, 3) := by decide +kernel
theorem g_X5_free_20_1 : ab_oks M_X5_free [(20, .iconst (-1), 1, 0, 0, 0, .int (-1))] = true := by decide +kernel
theorem dc_X5_free_21 : decode (AM.bytes M_X5_free) 21 = .ok (.if_icmp .ne 7, 3) := by decide +kernel
theorem g_X5_free_28_5 : ab_oks M_X5_free [(28, .iconst 0, 1, 0, 0, 0, .int (nI (0))), (29, .iadd, 1, 0, 0, 0, .null), (30, .istore_n 1, 1, 1, 0, 0, .null), (31, .iinc 2 1, 3, 2, 0, 0, .int (nI (1))), (34, .goto (-30), 3, 4, 0, 0, .null)] = true := by decide +kernel
theorem g_X5_free_24_6 : ab_oks M_X5_free [(24, .iconst 1, 1, 0, 0, 0, .int (nI (1))), (25, .goto 4, 3, 29, 0, 0, .null), (29, .iadd, 1, 0, 0, 0, .null), (30, .istore_n 1, 1, 1, 0, 0, .null), (31, .iinc 2 1, 3, 2, 0, 0, .int (nI (1))), (34, .goto (-30), 3, 4, 0, 0, .null)] = true := by decide +kernel
theorem g_X5_free_37_1 : ab_oks M_X5_free [(37, .iload_n 1, 1, 1, 0, 0, .null)] = true := by decide +kernel
theorem dc_X5_free_38 : decode (AM.bytes M_X5_free) 38 = .ok (.ireturn, 1) := by decide +kernel
set_option maxRecDepth 100000 in
set_option maxHeartbeats 4000000 in
theorem s_5free {E : AE} (d : Nat) {nv : Nat} {nc : Nat} {nr : Nat} {ne : Nat}  {o0 a0 t0 p0 u0 l0 : List AC} {z sa ro te fr to un ga pi be : Nat → Int32} {bm en sta sv ln th : Int32} {hh : Int64} (hZ : ZI z nv nc nr ne) : CT E M_X5_free (d + 2) [.ref 16384] (hp o0 a0 t0 p0 (mo z sa ro te fr to un ga pi be bm en sta sv ln th hh) u0 l0) (.inl (some (.int (L_5free_4 nv z nc)))) (hp o0 a0 t0 p0 (mo z sa ro te fr to un ga pi be bm en sta sv ln th hh) u0 l0) 0 0 := by
  obtain ⟨⟨hnv, h12⟩, ⟨hnc, h4⟩, ⟨hnr, h3⟩, ⟨hne, h60⟩, hLV⟩ := id hZ
  refine CT.of (L := [some (.ref 16384), none, none]) rfl rfl ?_
  refine AR.run g_X5_free_0_4 4 [some (.ref 16384), some (.int (nI (0))), some (.int (nI (0)))] [] _ [] rfl trivial ?_
  refine AR.cast (L' := [some (.ref 16384), some (.int (L_5free_4 nv z 0)), some (.int (nI (0)))]) (by first | rfl | (rw [L_5free_4])) rfl rfl (AR.loopN nc (fun j4 => [some (.ref 16384), some (.int (L_5free_4 nv z j4)), some (.int (nI (j4)))]) (fun j4 => (hp o0 a0 t0 p0 (mo z sa ro te fr to un ga pi be bm en sta sv ln th hh) u0 l0)) (fun j4 => True) (fun j4 hj4 hI4 ih4 => ?_) (fun hI4 => ?_) 0 (by omega) (by first | trivial | omega))
  · refine AR.run g_X5_free_4_4 10 [some (.ref 16384), some (.int (L_5free_4 nv z j4)), some (.int (nI (j4)))] [.int (nI (1)), .ref 16385, .int (nI (j4))] _ [] rfl trivial ?_
    refine AR.ald (n := 0) (e := 1) ok_X5_free_10 (by first | rfl | (simp only [nI_add, pk_mul]; first | done | rfl)) rfl (by omega) (by first | decide | omega) ?_
    refine AR.top hZ.2.1.1 ?_
    refine AR.ge2N (tgt := 37) (a := j4) (b := nc) dc_X5_free_11 (by decide) (by first | rfl | (simp only [nI_add, pk_mul]; first | done | rfl)) (by first | rfl | (simp only [nI_add, pk_mul]; first | done | rfl)) (by omega) (by omega) (fun c11_1 => absurd c11_1 (by omega)) (fun c11_1 => ?_)
    refine AR.run g_X5_free_14_3 17 [some (.ref 16384), some (.int (L_5free_4 nv z j4)), some (.int (nI (j4)))] [.int (nI (j4)), .ref 16384, .int (L_5free_4 nv z j4)] _ [] rfl trivial ?_
    refine AR.callV1 (16384) [.int (nI (j4))] [.int (L_5free_4 nv z j4)] lk_5_69 dc_X5_free_17 rfl rfl (s_volumeOn _ (nI (j4)) hZ.1.1 hZ.1.2) (by first | rfl | (simp only [nI_add, pk_mul]; first | done | rfl)) rfl ?_
    refine AR.run g_X5_free_20_1 21 [some (.ref 16384), some (.int (L_5free_4 nv z j4)), some (.int (nI (j4)))] [.int (-1), .int (oI (vo z (nI (j4)) nv)), .int (L_5free_4 nv z j4)] _ [] rfl trivial ?_
    refine AR.ne2 (tgt := 28) dc_X5_free_21 (by decide) (fun c21_2 => ?_) (fun c21_2 => ?_)
    · refine AR.run g_X5_free_28_5 4 [some (.ref 16384), some (.int ((L_5free_4 nv z j4) + (nI (0)))), some (.int ((nI (j4)) + (nI (1))))] [] _ [] rfl trivial ?_
      have e3 : L_5free_4 nv z (j4 + 1) = ((L_5free_4 nv z j4) + (nI (0))) := by rw [L_5free_4, B_5free_4, if_neg c21_2]
      exact AR.cast (L' := [some (.ref 16384), some (.int (L_5free_4 nv z (j4 + 1))), some (.int (nI (j4 + 1)))]) (by rw [e3, nI_add]) rfl rfl (ih4 (by first | trivial | omega))
    · refine AR.run g_X5_free_24_6 4 [some (.ref 16384), some (.int ((L_5free_4 nv z j4) + (nI (1)))), some (.int ((nI (j4)) + (nI (1))))] [] _ [] rfl trivial ?_
      have e4 : L_5free_4 nv z (j4 + 1) = ((L_5free_4 nv z j4) + (nI (1))) := by rw [L_5free_4, B_5free_4, if_pos c21_2]
      exact AR.cast (L' := [some (.ref 16384), some (.int (L_5free_4 nv z (j4 + 1))), some (.int (nI (j4 + 1)))]) (by rw [e4, nI_add]) rfl rfl (ih4 (by first | trivial | omega))
  · refine AR.run g_X5_free_4_4 10 [some (.ref 16384), some (.int (L_5free_4 nv z nc)), some (.int (nI (nc)))] [.int (nI (1)), .ref 16385, .int (nI (nc))] _ [] rfl trivial ?_
    refine AR.ald (n := 0) (e := 1) ok_X5_free_10 (by first | rfl | (simp only [nI_add, pk_mul]; first | done | rfl)) rfl (by omega) (by first | decide | omega) ?_
    refine AR.top hZ.2.1.1 ?_
    refine AR.ge2N (tgt := 37) (a := nc) (b := nc) dc_X5_free_11 (by decide) (by first | rfl | (simp only [nI_add, pk_mul]; first | done | rfl)) (by first | rfl | (simp only [nI_add, pk_mul]; first | done | rfl)) (by omega) (by omega) (fun c11_5 => ?_) (fun c11_5 => absurd c11_5 (by omega))
    refine AR.run g_X5_free_37_1 38 [some (.ref 16384), some (.int (L_5free_4 nv z nc)), some (.int (nI (nc)))] [.int (L_5free_4 nv z nc)] _ [] rfl trivial ?_
    exact AR.retI dc_X5_free_38 rfl rfl rfl
def F_5cradleNow (c : Nat) (w : Nat) (nv : Nat) (z : Nat → Int32) : Int32 := if w = 0 then (z (95 + 4 * c + w)) else if w = 1 then (z (95 + 4 * c + w)) else if w = 2 then (oI (vo z (nI (c)) nv)) else if w = 3 then (z (95 + 4 * c + (w - 1))) else if w = 4 then (z (95 + 4 * c + (w - 1))) else (idZ z nv c)
theorem g_X5_cradleNow_0_1 : ab_oks M_X5_cradleNow [(0, .iload_n 2, 1, 2, 0, 0, .null)] = true := by decide +kernel
theorem dc_X5_cradleNow_1 : decode (AM.bytes M_X5_cradleNow) 1 = .ok (.tableswitch 57 0 4 #[35, 35, 42, 48, 48], 35) := by decide +kernel
theorem g_X5_cradleNow_36_3 : ab_oks M_X5_cradleNow [(36, .aload_n 0, 1, 0, 0, 0, .null), (37, .iload_n 1, 1, 1, 0, 0, .null), (38, .iload_n 2, 1, 2, 0, 0, .null)] = true := by decide +kernel
theorem dc_X5_cradleNow_39 : decode (AM.bytes M_X5_cradleNow) 39 = .ok (.invokevirtual 72, 3) := by decide +kernel
theorem dc_X5_cradleNow_42 : decode (AM.bytes M_X5_cradleNow) 42 = .ok (.ireturn, 1) := by decide +kernel
theorem g_X5_cradleNow_43_2 : ab_oks M_X5_cradleNow [(43, .aload_n 0, 1, 0, 0, 0, .null), (44, .iload_n 1, 1, 1, 0, 0, .null)] = true := by decide +kernel
theorem dc_X5_cradleNow_45 : decode (AM.bytes M_X5_cradleNow) 45 = .ok (.invokevirtual 69, 3) := by decide +kernel
theorem dc_X5_cradleNow_48 : decode (AM.bytes M_X5_cradleNow) 48 = .ok (.ireturn, 1) := by decide +kernel
theorem g_X5_cradleNow_49_5 : ab_oks M_X5_cradleNow [(49, .aload_n 0, 1, 0, 0, 0, .null), (50, .iload_n 1, 1, 1, 0, 0, .null), (51, .iload_n 2, 1, 2, 0, 0, .null), (52, .iconst 1, 1, 0, 0, 0, .int (nI (1))), (53, .isub, 1, 0, 0, 0, .null)] = true := by decide +kernel
theorem dc_X5_cradleNow_54 : decode (AM.bytes M_X5_cradleNow) 54 = .ok (.invokevirtual 72, 3) := by decide +kernel
theorem dc_X5_cradleNow_57 : decode (AM.bytes M_X5_cradleNow) 57 = .ok (.ireturn, 1) := by decide +kernel
theorem g_X5_cradleNow_58_2 : ab_oks M_X5_cradleNow [(58, .aload_n 0, 1, 0, 0, 0, .null), (59, .iload_n 1, 1, 1, 0, 0, .null)] = true := by decide +kernel
theorem lk_5_101 : ab_lkV "LeafCradlesModel" 101 M_X5_idle 1 [1091, 1093, 49, 97, 1094] = true := by decide +kernel
theorem dc_X5_cradleNow_60 : decode (AM.bytes M_X5_cradleNow) 60 = .ok (.invokevirtual 101, 3) := by decide +kernel
theorem dc_X5_cradleNow_63 : decode (AM.bytes M_X5_cradleNow) 63 = .ok (.ireturn, 1) := by decide +kernel
set_option maxRecDepth 100000 in
set_option maxHeartbeats 4000000 in
theorem s_5cradleNow {E : AE} (d : Nat) (c : Nat) (w : Nat) {nv : Nat} {nc : Nat} {nr : Nat} {ne : Nat}  {o0 a0 t0 p0 u0 l0 : List AC} {z sa ro te fr to un ga pi be : Nat → Int32} {bm en sta sv ln th : Int32} {hh : Int64} (hZ : ZI z nv nc nr ne) (hc : c < 4) (hw : w < 6) : CT E M_X5_cradleNow (d + 3) [.ref 16384, .int (nI (c)), .int (nI (w))] (hp o0 a0 t0 p0 (mo z sa ro te fr to un ga pi be bm en sta sv ln th hh) u0 l0) (.inl (some (.int (F_5cradleNow c w nv z)))) (hp o0 a0 t0 p0 (mo z sa ro te fr to un ga pi be bm en sta sv ln th hh) u0 l0) 0 0 := by
  obtain ⟨⟨hnv, h12⟩, ⟨hnc, h4⟩, ⟨hnr, h3⟩, ⟨hne, h60⟩, hLV⟩ := id hZ
  refine CT.of (L := [some (.ref 16384), some (.int (nI (c))), some (.int (nI (w)))]) rfl rfl ?_
  refine AR.run g_X5_cradleNow_0_1 1 [some (.ref 16384), some (.int (nI (c))), some (.int (nI (w)))] [.int (nI (w))] _ [] rfl trivial ?_
  by_cases w1_1 : w = 0
  · refine AR.tswN (w := w) (tgt := 36) 0 dc_X5_cradleNow_1 (by first | rfl | (simp only [nI_add, pk_mul]; first | done | rfl)) w1_1 (by decide) 0 (by decide) (by decide) rfl (by decide) ?_
    refine AR.run g_X5_cradleNow_36_3 39 [some (.ref 16384), some (.int (nI (c))), some (.int (nI (w)))] [.int (nI (w)), .int (nI (c)), .ref 16384] _ [] rfl trivial ?_
    refine AR.callV1 (16384) [.int (nI (c)), .int (nI (w))] [] lk_5_72 dc_X5_cradleNow_39 rfl rfl (s_ofCradle _ c w (by omega) (by omega)) (by first | rfl | (simp only [nI_add, pk_mul]; first | done | rfl)) rfl ?_
    have e2_0 : F_5cradleNow c w nv z = (z (95 + 4 * c + w)) := by rw [F_5cradleNow, if_pos w1_1]
    exact AR.retI dc_X5_cradleNow_42 rfl e2_0.symm rfl
  · by_cases w1_3 : w = 1
    · refine AR.tswN (w := w) (tgt := 36) 1 dc_X5_cradleNow_1 (by first | rfl | (simp only [nI_add, pk_mul]; first | done | rfl)) w1_3 (by decide) 1 (by decide) (by decide) rfl (by decide) ?_
      refine AR.run g_X5_cradleNow_36_3 39 [some (.ref 16384), some (.int (nI (c))), some (.int (nI (w)))] [.int (nI (w)), .int (nI (c)), .ref 16384] _ [] rfl trivial ?_
      refine AR.callV1 (16384) [.int (nI (c)), .int (nI (w))] [] lk_5_72 dc_X5_cradleNow_39 rfl rfl (s_ofCradle _ c w (by omega) (by omega)) (by first | rfl | (simp only [nI_add, pk_mul]; first | done | rfl)) rfl ?_
      have e4_0 : F_5cradleNow c w nv z = (z (95 + 4 * c + w)) := by rw [F_5cradleNow, if_neg w1_1, if_pos w1_3]
      exact AR.retI dc_X5_cradleNow_42 rfl e4_0.symm rfl
    · by_cases w1_5 : w = 2
      · refine AR.tswN (w := w) (tgt := 43) 2 dc_X5_cradleNow_1 (by first | rfl | (simp only [nI_add, pk_mul]; first | done | rfl)) w1_5 (by decide) 2 (by decide) (by decide) rfl (by decide) ?_
        refine AR.run g_X5_cradleNow_43_2 45 [some (.ref 16384), some (.int (nI (c))), some (.int (nI (w)))] [.int (nI (c)), .ref 16384] _ [] rfl trivial ?_
        refine AR.callV1 (16384) [.int (nI (c))] [] lk_5_69 dc_X5_cradleNow_45 rfl rfl (s_volumeOn _ (nI (c)) hZ.1.1 hZ.1.2) (by first | rfl | (simp only [nI_add, pk_mul]; first | done | rfl)) rfl ?_
        have e6_0 : F_5cradleNow c w nv z = (oI (vo z (nI (c)) nv)) := by rw [F_5cradleNow, if_neg w1_1, if_neg w1_3, if_pos w1_5]
        exact AR.retI dc_X5_cradleNow_48 rfl e6_0.symm rfl
      · by_cases w1_7 : w = 3
        · refine AR.tswN (w := w) (tgt := 49) 3 dc_X5_cradleNow_1 (by first | rfl | (simp only [nI_add, pk_mul]; first | done | rfl)) w1_7 (by decide) 3 (by decide) (by decide) rfl (by decide) ?_
          refine AR.run g_X5_cradleNow_49_5 54 [some (.ref 16384), some (.int (nI (c))), some (.int (nI (w)))] [.int ((nI (w)) - (nI (1))), .int (nI (c)), .ref 16384] _ [] rfl trivial ?_
          refine AR.cast (L' := [some (.ref 16384), some (.int (nI (c))), some (.int (nI (w)))]) (st' := [.int (nI ((w - 1))), .int (nI (c)), .ref 16384]) rfl (by rw [pk_sub (by omega)]) rfl ?_
          refine AR.callV1 (16384) [.int (nI (c)), .int (nI ((w - 1)))] [] lk_5_72 dc_X5_cradleNow_54 rfl rfl (s_ofCradle _ c (w - 1) (by omega) (by omega)) (by first | rfl | (simp only [nI_add, pk_mul]; first | done | rfl)) rfl ?_
          have e8_0 : F_5cradleNow c w nv z = (z (95 + 4 * c + (w - 1))) := by rw [F_5cradleNow, if_neg w1_1, if_neg w1_3, if_neg w1_5, if_pos w1_7]
          exact AR.retI dc_X5_cradleNow_57 rfl e8_0.symm rfl
        · by_cases w1_9 : w = 4
          · refine AR.tswN (w := w) (tgt := 49) 4 dc_X5_cradleNow_1 (by first | rfl | (simp only [nI_add, pk_mul]; first | done | rfl)) w1_9 (by decide) 4 (by decide) (by decide) rfl (by decide) ?_
            refine AR.run g_X5_cradleNow_49_5 54 [some (.ref 16384), some (.int (nI (c))), some (.int (nI (w)))] [.int ((nI (w)) - (nI (1))), .int (nI (c)), .ref 16384] _ [] rfl trivial ?_
            refine AR.cast (L' := [some (.ref 16384), some (.int (nI (c))), some (.int (nI (w)))]) (st' := [.int (nI ((w - 1))), .int (nI (c)), .ref 16384]) rfl (by rw [pk_sub (by omega)]) rfl ?_
            refine AR.callV1 (16384) [.int (nI (c)), .int (nI ((w - 1)))] [] lk_5_72 dc_X5_cradleNow_54 rfl rfl (s_ofCradle _ c (w - 1) (by omega) (by omega)) (by first | rfl | (simp only [nI_add, pk_mul]; first | done | rfl)) rfl ?_
            have e10_0 : F_5cradleNow c w nv z = (z (95 + 4 * c + (w - 1))) := by rw [F_5cradleNow, if_neg w1_1, if_neg w1_3, if_neg w1_5, if_neg w1_7, if_pos w1_9]
            exact AR.retI dc_X5_cradleNow_57 rfl e10_0.symm rfl
          · refine AR.tswdN (w := w) (tgt := 58) dc_X5_cradleNow_1 (by first | rfl | (simp only [nI_add, pk_mul]; first | done | rfl)) (by omega) (by omega) (by decide) ?_
            refine AR.run g_X5_cradleNow_58_2 60 [some (.ref 16384), some (.int (nI (c))), some (.int (nI (w)))] [.int (nI (c)), .ref 16384] _ [] rfl trivial ?_
            refine AR.callV1 (16384) [.int (nI (c))] [] lk_5_101 dc_X5_cradleNow_60 rfl rfl (s_idle _ c (by omega) hZ.1.1 hZ.1.2 hZ.2.2.2.2) (by first | rfl | (simp only [nI_add, pk_mul]; first | done | rfl)) rfl ?_
            have e11_0 : F_5cradleNow c w nv z = (idZ z nv c) := by rw [F_5cradleNow, if_neg w1_1, if_neg w1_3, if_neg w1_5, if_neg w1_7, if_neg w1_9]
            exact AR.retI dc_X5_cradleNow_63 rfl e11_0.symm rfl
def B_5doneBy_4 (c : Int32) (z : Nat → Int32) (j4 : Nat) (x4_2 : Int32) : (Int32) := if c = (-1) then (x4_2 + (z (95 + 4 * j4 + 3))) else if (nI (j4)) = c then (x4_2 + (z (95 + 4 * j4 + 3))) else (x4_2 + (nI (0)))
def L_5doneBy_4 (c : Int32) (z : Nat → Int32) : Nat → (Int32)
  | 0 => nI (0)
  | j + 1 => B_5doneBy_4 c z j (L_5doneBy_4 c z  j)
theorem g_X5_doneBy_0_4 : ab_oks M_X5_doneBy [(0, .iconst 0, 1, 0, 0, 0, .int (nI (0))), (1, .istore_n 2, 1, 2, 0, 0, .null), (2, .iconst 0, 1, 0, 0, 0, .int (nI (0))), (3, .istore_n 3, 1, 3, 0, 0, .null)] = true := by decide +kernel
theorem g_X5_doneBy_4_4 : ab_oks M_X5_doneBy [(4, .iload_n 3, 1, 3, 0, 0, .null), (5, .aload_n 0, 1, 0, 0, 0, .null), (6, .getfield 7, 3, 5, 0, 936, .null), (9, .iconst 1, 1, 0, 0, 0, .int (nI (1)))] = true := by decide +kernel
theorem ok_X5_doneBy_10 : ab_ok M_X5_doneBy (10, .iaload, 1, 0, 0, 0, .null) = true := by decide +kernel
theorem dc_X5_doneBy_11 : decode (AM.bytes M_X5_doneBy) 11 = .ok (.if_icmp .ge 32, 3) := by decide +kernel
theorem g_X5_doneBy_14_3 : ab_oks M_X5_doneBy [(14, .iload_n 2, 1, 2, 0, 0, .null), (15, .iload_n 1, 1, 1, 0, 0, .null), (16, .iconst (-1), 1, 0, 0, 0, .int (-1))] = true := by decide +kernel
theorem dc_X5_doneBy_17 : decode (AM.bytes M_X5_doneBy) 17 = .ok (.if_icmp .eq 8, 3) := by decide +kernel
theorem g_X5_doneBy_25_3 : ab_oks M_X5_doneBy [(25, .aload_n 0, 1, 0, 0, 0, .null), (26, .iload_n 3, 1, 3, 0, 0, .null), (27, .iconst 3, 1, 0, 0, 0, .int (nI (3)))] = true := by decide +kernel
theorem dc_X5_doneBy_28 : decode (AM.bytes M_X5_doneBy) 28 = .ok (.invokevirtual 72, 3) := by decide +kernel
theorem g_X5_doneBy_31_5 : ab_oks M_X5_doneBy [(31, .goto 4, 3, 35, 0, 0, .null), (35, .iadd, 1, 0, 0, 0, .null), (36, .istore_n 2, 1, 2, 0, 0, .null), (37, .iinc 3 1, 3, 3, 0, 0, .int (nI (1))), (40, .goto (-36), 3, 4, 0, 0, .null)] = true := by decide +kernel
theorem g_X5_doneBy_20_2 : ab_oks M_X5_doneBy [(20, .iload_n 3, 1, 3, 0, 0, .null), (21, .iload_n 1, 1, 1, 0, 0, .null)] = true := by decide +kernel
theorem dc_X5_doneBy_22 : decode (AM.bytes M_X5_doneBy) 22 = .ok (.if_icmp .ne 12, 3) := by decide +kernel
theorem g_X5_doneBy_34_5 : ab_oks M_X5_doneBy [(34, .iconst 0, 1, 0, 0, 0, .int (nI (0))), (35, .iadd, 1, 0, 0, 0, .null), (36, .istore_n 2, 1, 2, 0, 0, .null), (37, .iinc 3 1, 3, 3, 0, 0, .int (nI (1))), (40, .goto (-36), 3, 4, 0, 0, .null)] = true := by decide +kernel
theorem g_X5_doneBy_43_1 : ab_oks M_X5_doneBy [(43, .iload_n 2, 1, 2, 0, 0, .null)] = true := by decide +kernel
theorem dc_X5_doneBy_44 : decode (AM.bytes M_X5_doneBy) 44 = .ok (.ireturn, 1) := by decide +kernel
set_option maxRecDepth 100000 in
set_option maxHeartbeats 4000000 in
theorem s_5doneBy {E : AE} (d : Nat) (c : Int32) {nv : Nat} {nc : Nat} {nr : Nat} {ne : Nat}  {o0 a0 t0 p0 u0 l0 : List AC} {z sa ro te fr to un ga pi be : Nat → Int32} {bm en sta sv ln th : Int32} {hh : Int64} (hZ : ZI z nv nc nr ne) : CT E M_X5_doneBy (d + 1) [.ref 16384, .int (c)] (hp o0 a0 t0 p0 (mo z sa ro te fr to un ga pi be bm en sta sv ln th hh) u0 l0) (.inl (some (.int (L_5doneBy_4 c z nc)))) (hp o0 a0 t0 p0 (mo z sa ro te fr to un ga pi be bm en sta sv ln th hh) u0 l0) 0 0 := by
  obtain ⟨⟨hnv, h12⟩, ⟨hnc, h4⟩, ⟨hnr, h3⟩, ⟨hne, h60⟩, hLV⟩ := id hZ
  refine CT.of (L := [some (.ref 16384), some (.int (c)), none, none]) rfl rfl ?_
  refine AR.run g_X5_doneBy_0_4 4 [some (.ref 16384), some (.int (c)), some (.int (nI (0))), some (.int (nI (0)))] [] _ [] rfl trivial ?_
  refine AR.cast (L' := [some (.ref 16384), some (.int (c)), some (.int (L_5doneBy_4 c z 0)), some (.int (nI (0)))]) (by first | rfl | (rw [L_5doneBy_4])) rfl rfl (AR.loopN nc (fun j4 => [some (.ref 16384), some (.int (c)), some (.int (L_5doneBy_4 c z j4)), some (.int (nI (j4)))]) (fun j4 => (hp o0 a0 t0 p0 (mo z sa ro te fr to un ga pi be bm en sta sv ln th hh) u0 l0)) (fun j4 => True) (fun j4 hj4 hI4 ih4 => ?_) (fun hI4 => ?_) 0 (by omega) (by first | trivial | omega))
  · refine AR.run g_X5_doneBy_4_4 10 [some (.ref 16384), some (.int (c)), some (.int (L_5doneBy_4 c z j4)), some (.int (nI (j4)))] [.int (nI (1)), .ref 16385, .int (nI (j4))] _ [] rfl trivial ?_
    refine AR.ald (n := 0) (e := 1) ok_X5_doneBy_10 (by first | rfl | (simp only [nI_add, pk_mul]; first | done | rfl)) rfl (by omega) (by first | decide | omega) ?_
    refine AR.top hZ.2.1.1 ?_
    refine AR.ge2N (tgt := 43) (a := j4) (b := nc) dc_X5_doneBy_11 (by decide) (by first | rfl | (simp only [nI_add, pk_mul]; first | done | rfl)) (by first | rfl | (simp only [nI_add, pk_mul]; first | done | rfl)) (by omega) (by omega) (fun c11_1 => absurd c11_1 (by omega)) (fun c11_1 => ?_)
    refine AR.run g_X5_doneBy_14_3 17 [some (.ref 16384), some (.int (c)), some (.int (L_5doneBy_4 c z j4)), some (.int (nI (j4)))] [.int (-1), .int (c), .int (L_5doneBy_4 c z j4)] _ [] rfl trivial ?_
    refine AR.eq2 (tgt := 25) dc_X5_doneBy_17 (by decide) (fun c17_2 => ?_) (fun c17_2 => ?_)
    · refine AR.run g_X5_doneBy_25_3 28 [some (.ref 16384), some (.int (c)), some (.int (L_5doneBy_4 c z j4)), some (.int (nI (j4)))] [.int (nI (3)), .int (nI (j4)), .ref 16384, .int (L_5doneBy_4 c z j4)] _ [] rfl trivial ?_
      refine AR.callV1 (16384) [.int (nI (j4)), .int (nI (3))] [.int (L_5doneBy_4 c z j4)] lk_5_72 dc_X5_doneBy_28 rfl rfl (s_ofCradle _ j4 3 (by omega) (by omega)) (by first | rfl | (simp only [nI_add, pk_mul]; first | done | rfl)) rfl ?_
      refine AR.run g_X5_doneBy_31_5 4 [some (.ref 16384), some (.int (c)), some (.int ((L_5doneBy_4 c z j4) + (z (95 + 4 * j4 + 3)))), some (.int ((nI (j4)) + (nI (1))))] [] _ [] rfl trivial ?_
      have e3 : L_5doneBy_4 c z (j4 + 1) = ((L_5doneBy_4 c z j4) + (z (95 + 4 * j4 + 3))) := by rw [L_5doneBy_4, B_5doneBy_4, if_pos c17_2]
      exact AR.cast (L' := [some (.ref 16384), some (.int (c)), some (.int (L_5doneBy_4 c z (j4 + 1))), some (.int (nI (j4 + 1)))]) (by rw [e3, nI_add]) rfl rfl (ih4 (by first | trivial | omega))
    · refine AR.run g_X5_doneBy_20_2 22 [some (.ref 16384), some (.int (c)), some (.int (L_5doneBy_4 c z j4)), some (.int (nI (j4)))] [.int (c), .int (nI (j4)), .int (L_5doneBy_4 c z j4)] _ [] rfl trivial ?_
      refine AR.ne2 (tgt := 34) dc_X5_doneBy_22 (by decide) (fun c22_4 => ?_) (fun c22_4 => ?_)
      · refine AR.run g_X5_doneBy_34_5 4 [some (.ref 16384), some (.int (c)), some (.int ((L_5doneBy_4 c z j4) + (nI (0)))), some (.int ((nI (j4)) + (nI (1))))] [] _ [] rfl trivial ?_
        have e5 : L_5doneBy_4 c z (j4 + 1) = ((L_5doneBy_4 c z j4) + (nI (0))) := by rw [L_5doneBy_4, B_5doneBy_4, if_neg c17_2, if_neg c22_4]
        exact AR.cast (L' := [some (.ref 16384), some (.int (c)), some (.int (L_5doneBy_4 c z (j4 + 1))), some (.int (nI (j4 + 1)))]) (by rw [e5, nI_add]) rfl rfl (ih4 (by first | trivial | omega))
      · refine AR.run g_X5_doneBy_25_3 28 [some (.ref 16384), some (.int (c)), some (.int (L_5doneBy_4 c z j4)), some (.int (nI (j4)))] [.int (nI (3)), .int (nI (j4)), .ref 16384, .int (L_5doneBy_4 c z j4)] _ [] rfl trivial ?_
        refine AR.callV1 (16384) [.int (nI (j4)), .int (nI (3))] [.int (L_5doneBy_4 c z j4)] lk_5_72 dc_X5_doneBy_28 rfl rfl (s_ofCradle _ j4 3 (by omega) (by omega)) (by first | rfl | (simp only [nI_add, pk_mul]; first | done | rfl)) rfl ?_
        refine AR.run g_X5_doneBy_31_5 4 [some (.ref 16384), some (.int (c)), some (.int ((L_5doneBy_4 c z j4) + (z (95 + 4 * j4 + 3)))), some (.int ((nI (j4)) + (nI (1))))] [] _ [] rfl trivial ?_
        have e6 : L_5doneBy_4 c z (j4 + 1) = ((L_5doneBy_4 c z j4) + (z (95 + 4 * j4 + 3))) := by rw [L_5doneBy_4, B_5doneBy_4, if_neg c17_2, if_pos c22_4]
        exact AR.cast (L' := [some (.ref 16384), some (.int (c)), some (.int (L_5doneBy_4 c z (j4 + 1))), some (.int (nI (j4 + 1)))]) (by rw [e6, nI_add]) rfl rfl (ih4 (by first | trivial | omega))
  · refine AR.run g_X5_doneBy_4_4 10 [some (.ref 16384), some (.int (c)), some (.int (L_5doneBy_4 c z nc)), some (.int (nI (nc)))] [.int (nI (1)), .ref 16385, .int (nI (nc))] _ [] rfl trivial ?_
    refine AR.ald (n := 0) (e := 1) ok_X5_doneBy_10 (by first | rfl | (simp only [nI_add, pk_mul]; first | done | rfl)) rfl (by omega) (by first | decide | omega) ?_
    refine AR.top hZ.2.1.1 ?_
    refine AR.ge2N (tgt := 43) (a := nc) (b := nc) dc_X5_doneBy_11 (by decide) (by first | rfl | (simp only [nI_add, pk_mul]; first | done | rfl)) (by first | rfl | (simp only [nI_add, pk_mul]; first | done | rfl)) (by omega) (by omega) (fun c11_7 => ?_) (fun c11_7 => absurd c11_7 (by omega))
    refine AR.run g_X5_doneBy_43_1 44 [some (.ref 16384), some (.int (c)), some (.int (L_5doneBy_4 c z nc)), some (.int (nI (nc)))] [.int (L_5doneBy_4 c z nc)] _ [] rfl trivial ?_
    exact AR.retI dc_X5_doneBy_44 rfl rfl rfl
def B_5whereNow_5 (v : Int32) (m : Int32) (z : Nat → Int32) (j5 : Nat) (x5_3 : Int32) : (Int32) := if m < (z (123 + (5 * j5))) then x5_3 else if (z ((123 + (5 * j5)) + 2)) = v then (z ((123 + (5 * j5)) + 3)) else x5_3
def L_5whereNow_5 (v : Int32) (m : Int32) (z : Nat → Int32) : Nat → (Int32)
  | 0 => -1
  | j + 1 => B_5whereNow_5 v m z j (L_5whereNow_5 v m z  j)
theorem g_X5_whereNow_0_4 : ab_oks M_X5_whereNow [(0, .iconst (-1), 1, 0, 0, 0, .int (-1)), (1, .istore_n 3, 1, 3, 0, 0, .null), (2, .iconst 0, 1, 0, 0, 0, .int (nI (0))), (3, .istore 4, 2, 4, 0, 0, .null)] = true := by decide +kernel
theorem g_X5_whereNow_5_4 : ab_oks M_X5_whereNow [(5, .iload 4, 2, 4, 0, 0, .null), (7, .aload_n 0, 1, 0, 0, 0, .null), (8, .getfield 7, 3, 5, 0, 936, .null), (11, .iconst 5, 1, 0, 0, 0, .int (nI (5)))] = true := by decide +kernel
theorem ok_X5_whereNow_12 : ab_ok M_X5_whereNow (12, .iaload, 1, 0, 0, 0, .null) = true := by decide +kernel
theorem dc_X5_whereNow_13 : decode (AM.bytes M_X5_whereNow) 13 = .ok (.if_icmp .ge 56, 3) := by decide +kernel
theorem g_X5_whereNow_16_9 : ab_oks M_X5_whereNow [(16, .bipush 123, 2, 0, 0, 0, .int (nI (123))), (18, .iconst 5, 1, 0, 0, 0, .int (nI (5))), (19, .iload 4, 2, 4, 0, 0, .null), (21, .imul, 1, 0, 0, 0, .null), (22, .iadd, 1, 0, 0, 0, .null), (23, .istore 5, 2, 5, 0, 0, .null), (25, .aload_n 0, 1, 0, 0, 0, .null), (26, .getfield 7, 3, 5, 0, 936, .null), (29, .iload 5, 2, 5, 0, 0, .null)] = true := by decide +kernel
theorem ok_X5_whereNow_31 : ab_ok M_X5_whereNow (31, .iaload, 1, 0, 0, 0, .null) = true := by decide +kernel
theorem g_X5_whereNow_32_1 : ab_oks M_X5_whereNow [(32, .iload_n 2, 1, 2, 0, 0, .null)] = true := by decide +kernel
theorem dc_X5_whereNow_33 : decode (AM.bytes M_X5_whereNow) 33 = .ok (.if_icmp .gt 28, 3) := by decide +kernel
theorem g_X5_whereNow_61_4 : ab_oks M_X5_whereNow [(61, .iload_n 3, 1, 3, 0, 0, .null), (62, .istore_n 3, 1, 3, 0, 0, .null), (63, .iinc 4 1, 3, 4, 0, 0, .int (nI (1))), (66, .goto (-61), 3, 5, 0, 0, .null)] = true := by decide +kernel
theorem g_X5_whereNow_36_5 : ab_oks M_X5_whereNow [(36, .aload_n 0, 1, 0, 0, 0, .null), (37, .getfield 7, 3, 5, 0, 936, .null), (40, .iload 5, 2, 5, 0, 0, .null), (42, .iconst 2, 1, 0, 0, 0, .int (nI (2))), (43, .iadd, 1, 0, 0, 0, .null)] = true := by decide +kernel
theorem ok_X5_whereNow_44 : ab_ok M_X5_whereNow (44, .iaload, 1, 0, 0, 0, .null) = true := by decide +kernel
theorem g_X5_whereNow_45_1 : ab_oks M_X5_whereNow [(45, .iload_n 1, 1, 1, 0, 0, .null)] = true := by decide +kernel
theorem dc_X5_whereNow_46 : decode (AM.bytes M_X5_whereNow) 46 = .ok (.if_icmp .ne 15, 3) := by decide +kernel
theorem g_X5_whereNow_49_5 : ab_oks M_X5_whereNow [(49, .aload_n 0, 1, 0, 0, 0, .null), (50, .getfield 7, 3, 5, 0, 936, .null), (53, .iload 5, 2, 5, 0, 0, .null), (55, .iconst 3, 1, 0, 0, 0, .int (nI (3))), (56, .iadd, 1, 0, 0, 0, .null)] = true := by decide +kernel
theorem ok_X5_whereNow_57 : ab_ok M_X5_whereNow (57, .iaload, 1, 0, 0, 0, .null) = true := by decide +kernel
theorem g_X5_whereNow_58_4 : ab_oks M_X5_whereNow [(58, .goto 4, 3, 62, 0, 0, .null), (62, .istore_n 3, 1, 3, 0, 0, .null), (63, .iinc 4 1, 3, 4, 0, 0, .int (nI (1))), (66, .goto (-61), 3, 5, 0, 0, .null)] = true := by decide +kernel
theorem g_X5_whereNow_69_1 : ab_oks M_X5_whereNow [(69, .iload_n 3, 1, 3, 0, 0, .null)] = true := by decide +kernel
theorem dc_X5_whereNow_70 : decode (AM.bytes M_X5_whereNow) 70 = .ok (.ireturn, 1) := by decide +kernel
set_option maxRecDepth 100000 in
set_option maxHeartbeats 4000000 in
theorem s_5whereNow {E : AE} (d : Nat) (v : Int32) (m : Int32) {nv : Nat} {nc : Nat} {nr : Nat} {ne : Nat}  {o0 a0 t0 p0 u0 l0 : List AC} {z sa ro te fr to un ga pi be : Nat → Int32} {bm en sta sv ln th : Int32} {hh : Int64} (hZ : ZI z nv nc nr ne) : CT E M_X5_whereNow d [.ref 16384, .int (v), .int (m)] (hp o0 a0 t0 p0 (mo z sa ro te fr to un ga pi be bm en sta sv ln th hh) u0 l0) (.inl (some (.int (L_5whereNow_5 v m z ne)))) (hp o0 a0 t0 p0 (mo z sa ro te fr to un ga pi be bm en sta sv ln th hh) u0 l0) 0 0 := by
  obtain ⟨⟨hnv, h12⟩, ⟨hnc, h4⟩, ⟨hnr, h3⟩, ⟨hne, h60⟩, hLV⟩ := id hZ
  refine CT.of (L := [some (.ref 16384), some (.int (v)), some (.int (m)), none, none, none]) rfl rfl ?_
  refine AR.run g_X5_whereNow_0_4 5 [some (.ref 16384), some (.int (v)), some (.int (m)), some (.int (-1)), some (.int (nI (0))), none] [] _ [] rfl trivial ?_
  refine AR.cast (L' := [some (.ref 16384), some (.int (v)), some (.int (m)), some (.int (L_5whereNow_5 v m z 0)), some (.int (nI (0))), none]) (by first | rfl | (rw [L_5whereNow_5])) rfl rfl (AR.loopN ne (fun j5 => [some (.ref 16384), some (.int (v)), some (.int (m)), some (.int (L_5whereNow_5 v m z j5)), some (.int (nI (j5))), none]) (fun j5 => (hp o0 a0 t0 p0 (mo z sa ro te fr to un ga pi be bm en sta sv ln th hh) u0 l0)) (fun j5 => True) (fun j5 hj5 hI5 ih5 => ?_) (fun hI5 => ?_) 0 (by omega) (by first | trivial | omega))
  · refine AR.run g_X5_whereNow_5_4 12 [some (.ref 16384), some (.int (v)), some (.int (m)), some (.int (L_5whereNow_5 v m z j5)), some (.int (nI (j5))), none] [.int (nI (5)), .ref 16385, .int (nI (j5))] _ [] rfl trivial ?_
    refine AR.ald (n := 0) (e := 5) ok_X5_whereNow_12 (by first | rfl | (simp only [nI_add, pk_mul]; first | done | rfl)) rfl (by omega) (by first | decide | omega) ?_
    refine AR.top hZ.2.2.2.1.1 ?_
    refine AR.ge2N (tgt := 69) (a := j5) (b := ne) dc_X5_whereNow_13 (by decide) (by first | rfl | (simp only [nI_add, pk_mul]; first | done | rfl)) (by first | rfl | (simp only [nI_add, pk_mul]; first | done | rfl)) (by omega) (by omega) (fun c13_1 => absurd c13_1 (by omega)) (fun c13_1 => ?_)
    refine AR.run g_X5_whereNow_16_9 31 [some (.ref 16384), some (.int (v)), some (.int (m)), some (.int (L_5whereNow_5 v m z j5)), some (.int (nI (j5))), some (.int ((nI (123)) + ((nI (5)) * (nI (j5)))))] [.int ((nI (123)) + ((nI (5)) * (nI (j5)))), .ref 16385] _ [] rfl trivial ?_
    refine AR.ald (n := 0) (e := (123 + (5 * j5))) ok_X5_whereNow_31 (by first | rfl | (simp only [nI_add, pk_mul]; first | done | rfl)) rfl (by omega) (by first | decide | omega) ?_
    refine AR.run g_X5_whereNow_32_1 33 [some (.ref 16384), some (.int (v)), some (.int (m)), some (.int (L_5whereNow_5 v m z j5)), some (.int (nI (j5))), some (.int ((nI (123)) + ((nI (5)) * (nI (j5)))))] [.int (m), .int (z (123 + (5 * j5)))] _ [] rfl trivial ?_
    refine AR.gt2 (tgt := 61) dc_X5_whereNow_33 (by decide) (fun c33_2 => ?_) (fun c33_2 => ?_)
    · refine AR.run g_X5_whereNow_61_4 5 [some (.ref 16384), some (.int (v)), some (.int (m)), some (.int (L_5whereNow_5 v m z j5)), some (.int ((nI (j5)) + (nI (1)))), some (.int ((nI (123)) + ((nI (5)) * (nI (j5)))))] [] _ [] rfl trivial ?_
      refine AR.drop (L' := [some (.ref 16384), some (.int (v)), some (.int (m)), some (.int (L_5whereNow_5 v m z j5)), some (.int ((nI (j5)) + (nI (1)))), none]) ⟨rfl, rfl, rfl, rfl, rfl, trivial⟩ ?_
      have e3 : L_5whereNow_5 v m z (j5 + 1) = (L_5whereNow_5 v m z j5) := by rw [L_5whereNow_5, B_5whereNow_5, if_pos c33_2]
      exact AR.cast (L' := [some (.ref 16384), some (.int (v)), some (.int (m)), some (.int (L_5whereNow_5 v m z (j5 + 1))), some (.int (nI (j5 + 1))), none]) (by rw [e3, nI_add]) rfl rfl (ih5 (by first | trivial | omega))
    · refine AR.run g_X5_whereNow_36_5 44 [some (.ref 16384), some (.int (v)), some (.int (m)), some (.int (L_5whereNow_5 v m z j5)), some (.int (nI (j5))), some (.int ((nI (123)) + ((nI (5)) * (nI (j5)))))] [.int (((nI (123)) + ((nI (5)) * (nI (j5)))) + (nI (2))), .ref 16385] _ [] rfl trivial ?_
      refine AR.ald (n := 0) (e := ((123 + (5 * j5)) + 2)) ok_X5_whereNow_44 (by first | rfl | (simp only [nI_add, pk_mul]; first | done | rfl)) rfl (by omega) (by first | decide | omega) ?_
      refine AR.run g_X5_whereNow_45_1 46 [some (.ref 16384), some (.int (v)), some (.int (m)), some (.int (L_5whereNow_5 v m z j5)), some (.int (nI (j5))), some (.int ((nI (123)) + ((nI (5)) * (nI (j5)))))] [.int (v), .int (z ((123 + (5 * j5)) + 2))] _ [] rfl trivial ?_
      refine AR.ne2 (tgt := 61) dc_X5_whereNow_46 (by decide) (fun c46_4 => ?_) (fun c46_4 => ?_)
      · refine AR.run g_X5_whereNow_61_4 5 [some (.ref 16384), some (.int (v)), some (.int (m)), some (.int (L_5whereNow_5 v m z j5)), some (.int ((nI (j5)) + (nI (1)))), some (.int ((nI (123)) + ((nI (5)) * (nI (j5)))))] [] _ [] rfl trivial ?_
        refine AR.drop (L' := [some (.ref 16384), some (.int (v)), some (.int (m)), some (.int (L_5whereNow_5 v m z j5)), some (.int ((nI (j5)) + (nI (1)))), none]) ⟨rfl, rfl, rfl, rfl, rfl, trivial⟩ ?_
        have e5 : L_5whereNow_5 v m z (j5 + 1) = (L_5whereNow_5 v m z j5) := by rw [L_5whereNow_5, B_5whereNow_5, if_neg c33_2, if_neg c46_4]
        exact AR.cast (L' := [some (.ref 16384), some (.int (v)), some (.int (m)), some (.int (L_5whereNow_5 v m z (j5 + 1))), some (.int (nI (j5 + 1))), none]) (by rw [e5, nI_add]) rfl rfl (ih5 (by first | trivial | omega))
      · refine AR.run g_X5_whereNow_49_5 57 [some (.ref 16384), some (.int (v)), some (.int (m)), some (.int (L_5whereNow_5 v m z j5)), some (.int (nI (j5))), some (.int ((nI (123)) + ((nI (5)) * (nI (j5)))))] [.int (((nI (123)) + ((nI (5)) * (nI (j5)))) + (nI (3))), .ref 16385] _ [] rfl trivial ?_
        refine AR.ald (n := 0) (e := ((123 + (5 * j5)) + 3)) ok_X5_whereNow_57 (by first | rfl | (simp only [nI_add, pk_mul]; first | done | rfl)) rfl (by omega) (by first | decide | omega) ?_
        refine AR.run g_X5_whereNow_58_4 5 [some (.ref 16384), some (.int (v)), some (.int (m)), some (.int (z ((123 + (5 * j5)) + 3))), some (.int ((nI (j5)) + (nI (1)))), some (.int ((nI (123)) + ((nI (5)) * (nI (j5)))))] [] _ [] rfl trivial ?_
        refine AR.drop (L' := [some (.ref 16384), some (.int (v)), some (.int (m)), some (.int (z ((123 + (5 * j5)) + 3))), some (.int ((nI (j5)) + (nI (1)))), none]) ⟨rfl, rfl, rfl, rfl, rfl, trivial⟩ ?_
        have e6 : L_5whereNow_5 v m z (j5 + 1) = (z ((123 + (5 * j5)) + 3)) := by rw [L_5whereNow_5, B_5whereNow_5, if_neg c33_2, if_pos c46_4]
        exact AR.cast (L' := [some (.ref 16384), some (.int (v)), some (.int (m)), some (.int (L_5whereNow_5 v m z (j5 + 1))), some (.int (nI (j5 + 1))), none]) (by rw [e6, nI_add]) rfl rfl (ih5 (by first | trivial | omega))
  · refine AR.run g_X5_whereNow_5_4 12 [some (.ref 16384), some (.int (v)), some (.int (m)), some (.int (L_5whereNow_5 v m z ne)), some (.int (nI (ne))), none] [.int (nI (5)), .ref 16385, .int (nI (ne))] _ [] rfl trivial ?_
    refine AR.ald (n := 0) (e := 5) ok_X5_whereNow_12 (by first | rfl | (simp only [nI_add, pk_mul]; first | done | rfl)) rfl (by omega) (by first | decide | omega) ?_
    refine AR.top hZ.2.2.2.1.1 ?_
    refine AR.ge2N (tgt := 69) (a := ne) (b := ne) dc_X5_whereNow_13 (by decide) (by first | rfl | (simp only [nI_add, pk_mul]; first | done | rfl)) (by first | rfl | (simp only [nI_add, pk_mul]; first | done | rfl)) (by omega) (by omega) (fun c13_7 => ?_) (fun c13_7 => absurd c13_7 (by omega))
    refine AR.run g_X5_whereNow_69_1 70 [some (.ref 16384), some (.int (v)), some (.int (m)), some (.int (L_5whereNow_5 v m z ne)), some (.int (nI (ne))), none] [.int (L_5whereNow_5 v m z ne)] _ [] rfl trivial ?_
    exact AR.retI dc_X5_whereNow_70 rfl rfl rfl
def F_5counted (w : Nat) (nv : Nat) (nc : Nat) (z : Nat → Int32) (sv : Int32) : Int32 := if w = 6 then (L_5overAll_4 2 z nv) else if w = 7 then (L_5overAll_4 w z nv) else if w = 8 then (L_5overAll_4 w z nv) else if w = 9 then (L_5overAll_4 w z nv) else if w = 10 then (L_5overAll_4 11 z nv) else if w = 11 then (z 6) else if w = 12 then (L_5free_4 nv z nc) else if w = 13 then sv else (z w)
theorem g_X5_counted_0_1 : ab_oks M_X5_counted [(0, .iload_n 1, 1, 1, 0, 0, .null)] = true := by decide +kernel
theorem dc_X5_counted_1 : decode (AM.bytes M_X5_counted) 1 = .ok (.tableswitch 84 6 13 #[47, 53, 53, 53, 59, 66, 74, 79], 47) := by decide +kernel
theorem g_X5_counted_48_2 : ab_oks M_X5_counted [(48, .aload_n 0, 1, 0, 0, 0, .null), (49, .iconst 2, 1, 0, 0, 0, .int (nI (2)))] = true := by decide +kernel
theorem lk_5_173 : ab_lkV "LeafCradlesModel" 173 M_X5_overAll 1 [1223, 1225, 69, 97, 1226] = true := by decide +kernel
theorem dc_X5_counted_50 : decode (AM.bytes M_X5_counted) 50 = .ok (.invokevirtual 173, 3) := by decide +kernel
theorem dc_X5_counted_53 : decode (AM.bytes M_X5_counted) 53 = .ok (.ireturn, 1) := by decide +kernel
theorem g_X5_counted_54_2 : ab_oks M_X5_counted [(54, .aload_n 0, 1, 0, 0, 0, .null), (55, .iload_n 1, 1, 1, 0, 0, .null)] = true := by decide +kernel
theorem dc_X5_counted_56 : decode (AM.bytes M_X5_counted) 56 = .ok (.invokevirtual 173, 3) := by decide +kernel
theorem dc_X5_counted_59 : decode (AM.bytes M_X5_counted) 59 = .ok (.ireturn, 1) := by decide +kernel
theorem g_X5_counted_60_2 : ab_oks M_X5_counted [(60, .aload_n 0, 1, 0, 0, 0, .null), (61, .bipush 11, 2, 0, 0, 0, .int (nI (11)))] = true := by decide +kernel
theorem dc_X5_counted_63 : decode (AM.bytes M_X5_counted) 63 = .ok (.invokevirtual 173, 3) := by decide +kernel
theorem dc_X5_counted_66 : decode (AM.bytes M_X5_counted) 66 = .ok (.ireturn, 1) := by decide +kernel
theorem g_X5_counted_67_3 : ab_oks M_X5_counted [(67, .aload_n 0, 1, 0, 0, 0, .null), (68, .getfield 7, 3, 5, 0, 936, .null), (71, .bipush 6, 2, 0, 0, 0, .int (nI (6)))] = true := by decide +kernel
theorem ok_X5_counted_73 : ab_ok M_X5_counted (73, .iaload, 1, 0, 0, 0, .null) = true := by decide +kernel
theorem dc_X5_counted_74 : decode (AM.bytes M_X5_counted) 74 = .ok (.ireturn, 1) := by decide +kernel
theorem g_X5_counted_75_1 : ab_oks M_X5_counted [(75, .aload_n 0, 1, 0, 0, 0, .null)] = true := by decide +kernel
theorem lk_5_176 : ab_lkV "LeafCradlesModel" 176 M_X5_free 0 [1227, 1229, 70, 97, 1230] = true := by decide +kernel
theorem dc_X5_counted_76 : decode (AM.bytes M_X5_counted) 76 = .ok (.invokevirtual 176, 3) := by decide +kernel
theorem dc_X5_counted_79 : decode (AM.bytes M_X5_counted) 79 = .ok (.ireturn, 1) := by decide +kernel
theorem g_X5_counted_80_2 : ab_oks M_X5_counted [(80, .aload_n 0, 1, 0, 0, 0, .null), (81, .getfield 48, 3, 5, 13, 949, .null)] = true := by decide +kernel
theorem dc_X5_counted_84 : decode (AM.bytes M_X5_counted) 84 = .ok (.ireturn, 1) := by decide +kernel
theorem g_X5_counted_85_3 : ab_oks M_X5_counted [(85, .aload_n 0, 1, 0, 0, 0, .null), (86, .getfield 7, 3, 5, 0, 936, .null), (89, .iload_n 1, 1, 1, 0, 0, .null)] = true := by decide +kernel
theorem ok_X5_counted_90 : ab_ok M_X5_counted (90, .iaload, 1, 0, 0, 0, .null) = true := by decide +kernel
theorem dc_X5_counted_91 : decode (AM.bytes M_X5_counted) 91 = .ok (.ireturn, 1) := by decide +kernel
set_option maxRecDepth 100000 in
set_option maxHeartbeats 4000000 in
theorem s_5counted {E : AE} (d : Nat) (w : Nat) {nv : Nat} {nc : Nat} {nr : Nat} {ne : Nat}  {o0 a0 t0 p0 u0 l0 : List AC} {z sa ro te fr to un ga pi be : Nat → Int32} {bm en sta sv ln th : Int32} {hh : Int64} (hZ : ZI z nv nc nr ne) (hw : w < 14) : CT E M_X5_counted (d + 5) [.ref 16384, .int (nI (w))] (hp o0 a0 t0 p0 (mo z sa ro te fr to un ga pi be bm en sta sv ln th hh) u0 l0) (.inl (some (.int (F_5counted w nv nc z sv)))) (hp o0 a0 t0 p0 (mo z sa ro te fr to un ga pi be bm en sta sv ln th hh) u0 l0) 0 0 := by
  obtain ⟨⟨hnv, h12⟩, ⟨hnc, h4⟩, ⟨hnr, h3⟩, ⟨hne, h60⟩, hLV⟩ := id hZ
  refine CT.of (L := [some (.ref 16384), some (.int (nI (w)))]) rfl rfl ?_
  refine AR.run g_X5_counted_0_1 1 [some (.ref 16384), some (.int (nI (w)))] [.int (nI (w))] _ [] rfl trivial ?_
  by_cases w1_1 : w = 6
  · refine AR.tswN (w := w) (tgt := 48) 6 dc_X5_counted_1 (by first | rfl | (simp only [nI_add, pk_mul]; first | done | rfl)) w1_1 (by decide) 0 (by decide) (by decide) rfl (by decide) ?_
    refine AR.run g_X5_counted_48_2 50 [some (.ref 16384), some (.int (nI (w)))] [.int (nI (2)), .ref 16384] _ [] rfl trivial ?_
    refine AR.callV1 (16384) [.int (nI (2))] [] lk_5_173 dc_X5_counted_50 rfl rfl (s_5overAll _ 2 (by assumption) (by omega)) (by first | rfl | (simp only [nI_add, pk_mul]; first | done | rfl)) rfl ?_
    have e2_0 : F_5counted w nv nc z sv = (L_5overAll_4 2 z nv) := by rw [F_5counted, if_pos w1_1]
    exact AR.retI dc_X5_counted_53 rfl e2_0.symm rfl
  · by_cases w1_3 : w = 7
    · refine AR.tswN (w := w) (tgt := 54) 7 dc_X5_counted_1 (by first | rfl | (simp only [nI_add, pk_mul]; first | done | rfl)) w1_3 (by decide) 1 (by decide) (by decide) rfl (by decide) ?_
      refine AR.run g_X5_counted_54_2 56 [some (.ref 16384), some (.int (nI (w)))] [.int (nI (w)), .ref 16384] _ [] rfl trivial ?_
      refine AR.callV1 (16384) [.int (nI (w))] [] lk_5_173 dc_X5_counted_56 rfl rfl (s_5overAll _ w (by assumption) (by omega)) (by first | rfl | (simp only [nI_add, pk_mul]; first | done | rfl)) rfl ?_
      have e4_0 : F_5counted w nv nc z sv = (L_5overAll_4 w z nv) := by rw [F_5counted, if_neg w1_1, if_pos w1_3]
      exact AR.retI dc_X5_counted_59 rfl e4_0.symm rfl
    · by_cases w1_5 : w = 8
      · refine AR.tswN (w := w) (tgt := 54) 8 dc_X5_counted_1 (by first | rfl | (simp only [nI_add, pk_mul]; first | done | rfl)) w1_5 (by decide) 2 (by decide) (by decide) rfl (by decide) ?_
        refine AR.run g_X5_counted_54_2 56 [some (.ref 16384), some (.int (nI (w)))] [.int (nI (w)), .ref 16384] _ [] rfl trivial ?_
        refine AR.callV1 (16384) [.int (nI (w))] [] lk_5_173 dc_X5_counted_56 rfl rfl (s_5overAll _ w (by assumption) (by omega)) (by first | rfl | (simp only [nI_add, pk_mul]; first | done | rfl)) rfl ?_
        have e6_0 : F_5counted w nv nc z sv = (L_5overAll_4 w z nv) := by rw [F_5counted, if_neg w1_1, if_neg w1_3, if_pos w1_5]
        exact AR.retI dc_X5_counted_59 rfl e6_0.symm rfl
      · by_cases w1_7 : w = 9
        · refine AR.tswN (w := w) (tgt := 54) 9 dc_X5_counted_1 (by first | rfl | (simp only [nI_add, pk_mul]; first | done | rfl)) w1_7 (by decide) 3 (by decide) (by decide) rfl (by decide) ?_
          refine AR.run g_X5_counted_54_2 56 [some (.ref 16384), some (.int (nI (w)))] [.int (nI (w)), .ref 16384] _ [] rfl trivial ?_
          refine AR.callV1 (16384) [.int (nI (w))] [] lk_5_173 dc_X5_counted_56 rfl rfl (s_5overAll _ w (by assumption) (by omega)) (by first | rfl | (simp only [nI_add, pk_mul]; first | done | rfl)) rfl ?_
          have e8_0 : F_5counted w nv nc z sv = (L_5overAll_4 w z nv) := by rw [F_5counted, if_neg w1_1, if_neg w1_3, if_neg w1_5, if_pos w1_7]
          exact AR.retI dc_X5_counted_59 rfl e8_0.symm rfl
        · by_cases w1_9 : w = 10
          · refine AR.tswN (w := w) (tgt := 60) 10 dc_X5_counted_1 (by first | rfl | (simp only [nI_add, pk_mul]; first | done | rfl)) w1_9 (by decide) 4 (by decide) (by decide) rfl (by decide) ?_
            refine AR.run g_X5_counted_60_2 63 [some (.ref 16384), some (.int (nI (w)))] [.int (nI (11)), .ref 16384] _ [] rfl trivial ?_
            refine AR.callV1 (16384) [.int (nI (11))] [] lk_5_173 dc_X5_counted_63 rfl rfl (s_5overAll _ 11 (by assumption) (by omega)) (by first | rfl | (simp only [nI_add, pk_mul]; first | done | rfl)) rfl ?_
            have e10_0 : F_5counted w nv nc z sv = (L_5overAll_4 11 z nv) := by rw [F_5counted, if_neg w1_1, if_neg w1_3, if_neg w1_5, if_neg w1_7, if_pos w1_9]
            exact AR.retI dc_X5_counted_66 rfl e10_0.symm rfl
          · by_cases w1_11 : w = 11
            · refine AR.tswN (w := w) (tgt := 67) 11 dc_X5_counted_1 (by first | rfl | (simp only [nI_add, pk_mul]; first | done | rfl)) w1_11 (by decide) 5 (by decide) (by decide) rfl (by decide) ?_
              refine AR.run g_X5_counted_67_3 73 [some (.ref 16384), some (.int (nI (w)))] [.int (nI (6)), .ref 16385] _ [] rfl trivial ?_
              refine AR.ald (n := 0) (e := 6) ok_X5_counted_73 (by first | rfl | (simp only [nI_add, pk_mul]; first | done | rfl)) rfl (by omega) (by first | decide | omega) ?_
              have e12_0 : F_5counted w nv nc z sv = (z 6) := by rw [F_5counted, if_neg w1_1, if_neg w1_3, if_neg w1_5, if_neg w1_7, if_neg w1_9, if_pos w1_11]
              exact AR.retI dc_X5_counted_74 rfl e12_0.symm rfl
            · by_cases w1_13 : w = 12
              · refine AR.tswN (w := w) (tgt := 75) 12 dc_X5_counted_1 (by first | rfl | (simp only [nI_add, pk_mul]; first | done | rfl)) w1_13 (by decide) 6 (by decide) (by decide) rfl (by decide) ?_
                refine AR.run g_X5_counted_75_1 76 [some (.ref 16384), some (.int (nI (w)))] [.ref 16384] _ [] rfl trivial ?_
                refine AR.callV1 (16384) [] [] lk_5_176 dc_X5_counted_76 rfl rfl (s_5free _  (by assumption)) (by first | rfl | (simp only [nI_add, pk_mul]; first | done | rfl)) rfl ?_
                have e14_0 : F_5counted w nv nc z sv = (L_5free_4 nv z nc) := by rw [F_5counted, if_neg w1_1, if_neg w1_3, if_neg w1_5, if_neg w1_7, if_neg w1_9, if_neg w1_11, if_pos w1_13]
                exact AR.retI dc_X5_counted_79 rfl e14_0.symm rfl
              · by_cases w1_15 : w = 13
                · refine AR.tswN (w := w) (tgt := 80) 13 dc_X5_counted_1 (by first | rfl | (simp only [nI_add, pk_mul]; first | done | rfl)) w1_15 (by decide) 7 (by decide) (by decide) rfl (by decide) ?_
                  refine AR.run g_X5_counted_80_2 84 [some (.ref 16384), some (.int (nI (w)))] [.int (sv)] _ [] rfl trivial ?_
                  have e16_0 : F_5counted w nv nc z sv = sv := by rw [F_5counted, if_neg w1_1, if_neg w1_3, if_neg w1_5, if_neg w1_7, if_neg w1_9, if_neg w1_11, if_neg w1_13, if_pos w1_15]
                  exact AR.retI dc_X5_counted_84 rfl e16_0.symm rfl
                · refine AR.tswdN (w := w) (tgt := 85) dc_X5_counted_1 (by first | rfl | (simp only [nI_add, pk_mul]; first | done | rfl)) (by omega) (by omega) (by decide) ?_
                  refine AR.run g_X5_counted_85_3 90 [some (.ref 16384), some (.int (nI (w)))] [.int (nI (w)), .ref 16385] _ [] rfl trivial ?_
                  refine AR.ald (n := 0) (e := w) ok_X5_counted_90 (by first | rfl | (simp only [nI_add, pk_mul]; first | done | rfl)) rfl (by omega) (by first | decide | omega) ?_
                  have e17_0 : F_5counted w nv nc z sv = (z w) := by rw [F_5counted, if_neg w1_1, if_neg w1_3, if_neg w1_5, if_neg w1_7, if_neg w1_9, if_neg w1_11, if_neg w1_13, if_neg w1_15]
                  exact AR.retI dc_X5_counted_91 rfl e17_0.symm rfl
def B_5isAny_4 (nv : Nat) (z : Nat → Int32) (j4 : Nat) (x4_1 : Int32) : (Int32) := if x4_1 = 0 then if (oI (vo z (nI (j4)) nv)) = (-1) then (nI (0)) else if (z (95 + 4 * j4 + 1)) < (z (11 + 7 * (voG z (nI (j4)) nv) + 3)) then (nI (0)) else if (oI (nlO z (voG z (nI (j4)) nv) (lv z (voG z (nI (j4)) nv)))) = (-1) then (nI (0)) else (nI (1)) else (nI (1))
def L_5isAny_4 (nv : Nat) (z : Nat → Int32) : Nat → (Int32)
  | 0 => nI (0)
  | j + 1 => B_5isAny_4 nv z j (L_5isAny_4 nv z  j)
theorem g_X5_isAny_0_4 : ab_oks M_X5_isAny [(0, .iconst 0, 1, 0, 0, 0, .int (nI (0))), (1, .istore_n 1, 1, 1, 0, 0, .null), (2, .iconst 0, 1, 0, 0, 0, .int (nI (0))), (3, .istore_n 2, 1, 2, 0, 0, .null)] = true := by decide +kernel
theorem g_X5_isAny_4_4 : ab_oks M_X5_isAny [(4, .iload_n 2, 1, 2, 0, 0, .null), (5, .aload_n 0, 1, 0, 0, 0, .null), (6, .getfield 7, 3, 5, 0, 936, .null), (9, .iconst 1, 1, 0, 0, 0, .int (nI (1)))] = true := by decide +kernel
theorem ok_X5_isAny_10 : ab_ok M_X5_isAny (10, .iaload, 1, 0, 0, 0, .null) = true := by decide +kernel
theorem dc_X5_isAny_11 : decode (AM.bytes M_X5_isAny) 11 = .ok (.if_icmp .ge 54, 3) := by decide +kernel
theorem g_X5_isAny_14_2 : ab_oks M_X5_isAny [(14, .aload_n 0, 1, 0, 0, 0, .null), (15, .iload_n 2, 1, 2, 0, 0, .null)] = true := by decide +kernel
theorem dc_X5_isAny_16 : decode (AM.bytes M_X5_isAny) 16 = .ok (.invokevirtual 69, 3) := by decide +kernel
theorem g_X5_isAny_19_2 : ab_oks M_X5_isAny [(19, .istore_n 3, 1, 3, 0, 0, .null), (20, .iload_n 1, 1, 1, 0, 0, .null)] = true := by decide +kernel
theorem dc_X5_isAny_21 : decode (AM.bytes M_X5_isAny) 21 = .ok (.ifCond .ne 32, 3) := by decide +kernel
theorem g_X5_isAny_53_5 : ab_oks M_X5_isAny [(53, .iconst 1, 1, 0, 0, 0, .int (nI (1))), (54, .goto 4, 3, 58, 0, 0, .null), (58, .istore_n 1, 1, 1, 0, 0, .null), (59, .iinc 2 1, 3, 2, 0, 0, .int (nI (1))), (62, .goto (-58), 3, 4, 0, 0, .null)] = true := by decide +kernel
theorem g_X5_isAny_24_2 : ab_oks M_X5_isAny [(24, .iload_n 3, 1, 3, 0, 0, .null), (25, .iconst (-1), 1, 0, 0, 0, .int (-1))] = true := by decide +kernel
theorem dc_X5_isAny_26 : decode (AM.bytes M_X5_isAny) 26 = .ok (.if_icmp .eq 31, 3) := by decide +kernel
theorem g_X5_isAny_57_4 : ab_oks M_X5_isAny [(57, .iconst 0, 1, 0, 0, 0, .int (nI (0))), (58, .istore_n 1, 1, 1, 0, 0, .null), (59, .iinc 2 1, 3, 2, 0, 0, .int (nI (1))), (62, .goto (-58), 3, 4, 0, 0, .null)] = true := by decide +kernel
theorem g_X5_isAny_29_3 : ab_oks M_X5_isAny [(29, .aload_n 0, 1, 0, 0, 0, .null), (30, .iload_n 3, 1, 3, 0, 0, .null), (31, .iconst 3, 1, 0, 0, 0, .int (nI (3)))] = true := by decide +kernel
theorem dc_X5_isAny_32 : decode (AM.bytes M_X5_isAny) 32 = .ok (.invokevirtual 62, 3) := by decide +kernel
theorem g_X5_isAny_35_3 : ab_oks M_X5_isAny [(35, .aload_n 0, 1, 0, 0, 0, .null), (36, .iload_n 2, 1, 2, 0, 0, .null), (37, .iconst 1, 1, 0, 0, 0, .int (nI (1)))] = true := by decide +kernel
theorem dc_X5_isAny_38 : decode (AM.bytes M_X5_isAny) 38 = .ok (.invokevirtual 72, 3) := by decide +kernel
theorem dc_X5_isAny_41 : decode (AM.bytes M_X5_isAny) 41 = .ok (.if_icmp .gt 16, 3) := by decide +kernel
theorem g_X5_isAny_44_2 : ab_oks M_X5_isAny [(44, .aload_n 0, 1, 0, 0, 0, .null), (45, .iload_n 3, 1, 3, 0, 0, .null)] = true := by decide +kernel
theorem dc_X5_isAny_46 : decode (AM.bytes M_X5_isAny) 46 = .ok (.invokevirtual 75, 3) := by decide +kernel
theorem g_X5_isAny_49_1 : ab_oks M_X5_isAny [(49, .iconst (-1), 1, 0, 0, 0, .int (-1))] = true := by decide +kernel
theorem dc_X5_isAny_50 : decode (AM.bytes M_X5_isAny) 50 = .ok (.if_icmp .eq 7, 3) := by decide +kernel
theorem g_X5_isAny_65_1 : ab_oks M_X5_isAny [(65, .iload_n 1, 1, 1, 0, 0, .null)] = true := by decide +kernel
theorem dc_X5_isAny_66 : decode (AM.bytes M_X5_isAny) 66 = .ok (.ireturn, 1) := by decide +kernel
set_option maxRecDepth 100000 in
set_option maxHeartbeats 4000000 in
theorem s_5isAny {E : AE} (d : Nat) {nv : Nat} {nc : Nat} {nr : Nat} {ne : Nat}  {o0 a0 t0 p0 u0 l0 : List AC} {z sa ro te fr to un ga pi be : Nat → Int32} {bm en sta sv ln th : Int32} {hh : Int64} (hZ : ZI z nv nc nr ne) : CT E M_X5_isAny (d + 2) [.ref 16384] (hp o0 a0 t0 p0 (mo z sa ro te fr to un ga pi be bm en sta sv ln th hh) u0 l0) (.inl (some (.int (L_5isAny_4 nv z nc)))) (hp o0 a0 t0 p0 (mo z sa ro te fr to un ga pi be bm en sta sv ln th hh) u0 l0) 0 0 := by
  obtain ⟨⟨hnv, h12⟩, ⟨hnc, h4⟩, ⟨hnr, h3⟩, ⟨hne, h60⟩, hLV⟩ := id hZ
  refine CT.of (L := [some (.ref 16384), none, none, none]) rfl rfl ?_
  refine AR.run g_X5_isAny_0_4 4 [some (.ref 16384), some (.int (nI (0))), some (.int (nI (0))), none] [] _ [] rfl trivial ?_
  refine AR.cast (L' := [some (.ref 16384), some (.int (L_5isAny_4 nv z 0)), some (.int (nI (0))), none]) (by first | rfl | (rw [L_5isAny_4])) rfl rfl (AR.loopN nc (fun j4 => [some (.ref 16384), some (.int (L_5isAny_4 nv z j4)), some (.int (nI (j4))), none]) (fun j4 => (hp o0 a0 t0 p0 (mo z sa ro te fr to un ga pi be bm en sta sv ln th hh) u0 l0)) (fun j4 => (L_5isAny_4 nv z j4 = 0 ∨ L_5isAny_4 nv z j4 = 1)) (fun j4 hj4 hI4 ih4 => ?_) (fun hI4 => ?_) 0 (by omega) (Or.inl rfl))
  · refine AR.run g_X5_isAny_4_4 10 [some (.ref 16384), some (.int (L_5isAny_4 nv z j4)), some (.int (nI (j4))), none] [.int (nI (1)), .ref 16385, .int (nI (j4))] _ [] rfl trivial ?_
    refine AR.ald (n := 0) (e := 1) ok_X5_isAny_10 (by first | rfl | (simp only [nI_add, pk_mul]; first | done | rfl)) rfl (by omega) (by first | decide | omega) ?_
    refine AR.top hZ.2.1.1 ?_
    refine AR.ge2N (tgt := 65) (a := j4) (b := nc) dc_X5_isAny_11 (by decide) (by first | rfl | (simp only [nI_add, pk_mul]; first | done | rfl)) (by first | rfl | (simp only [nI_add, pk_mul]; first | done | rfl)) (by omega) (by omega) (fun c11_1 => absurd c11_1 (by omega)) (fun c11_1 => ?_)
    refine AR.run g_X5_isAny_14_2 16 [some (.ref 16384), some (.int (L_5isAny_4 nv z j4)), some (.int (nI (j4))), none] [.int (nI (j4)), .ref 16384] _ [] rfl trivial ?_
    refine AR.callV1 (16384) [.int (nI (j4))] [] lk_5_69 dc_X5_isAny_16 rfl rfl (s_volumeOn _ (nI (j4)) hZ.1.1 hZ.1.2) (by first | rfl | (simp only [nI_add, pk_mul]; first | done | rfl)) rfl ?_
    refine AR.run g_X5_isAny_19_2 21 [some (.ref 16384), some (.int (L_5isAny_4 nv z j4)), some (.int (nI (j4))), some (.int (oI (vo z (nI (j4)) nv)))] [.int (L_5isAny_4 nv z j4)] _ [] rfl trivial ?_
    refine AR.ne (tgt := 53) dc_X5_isAny_21 (by decide) (fun c21_2 => ?_) (fun c21_2 => ?_)
    · refine AR.run g_X5_isAny_53_5 4 [some (.ref 16384), some (.int (nI (1))), some (.int ((nI (j4)) + (nI (1)))), some (.int (oI (vo z (nI (j4)) nv)))] [] _ [] rfl trivial ?_
      refine AR.drop (L' := [some (.ref 16384), some (.int (nI (1))), some (.int ((nI (j4)) + (nI (1)))), none]) ⟨rfl, rfl, rfl, trivial⟩ ?_
      have e3 : L_5isAny_4 nv z (j4 + 1) = (nI (1)) := by rw [L_5isAny_4, B_5isAny_4, if_neg c21_2]
      exact AR.cast (L' := [some (.ref 16384), some (.int (L_5isAny_4 nv z (j4 + 1))), some (.int (nI (j4 + 1))), none]) (by rw [e3, nI_add]) rfl rfl (ih4 (by rw [e3]; first | exact Or.inl rfl | exact Or.inr rfl))
    · refine AR.run g_X5_isAny_24_2 26 [some (.ref 16384), some (.int (L_5isAny_4 nv z j4)), some (.int (nI (j4))), some (.int (oI (vo z (nI (j4)) nv)))] [.int (-1), .int (oI (vo z (nI (j4)) nv))] _ [] rfl trivial ?_
      refine AR.eq2 (tgt := 57) dc_X5_isAny_26 (by decide) (fun c26_4 => ?_) (fun c26_4 => ?_)
      · refine AR.run g_X5_isAny_57_4 4 [some (.ref 16384), some (.int (nI (0))), some (.int ((nI (j4)) + (nI (1)))), some (.int (oI (vo z (nI (j4)) nv)))] [] _ [] rfl trivial ?_
        refine AR.drop (L' := [some (.ref 16384), some (.int (nI (0))), some (.int ((nI (j4)) + (nI (1)))), none]) ⟨rfl, rfl, rfl, trivial⟩ ?_
        have e5 : L_5isAny_4 nv z (j4 + 1) = (nI (0)) := by rw [L_5isAny_4, B_5isAny_4, if_pos c21_2, if_pos c26_4]
        exact AR.cast (L' := [some (.ref 16384), some (.int (L_5isAny_4 nv z (j4 + 1))), some (.int (nI (j4 + 1))), none]) (by rw [e5, nI_add]) rfl rfl (ih4 (by rw [e5]; first | exact Or.inl rfl | exact Or.inr rfl))
      · obtain ⟨hx6, hy6⟩ := vo_get (by assumption)
        refine AR.cast (L' := [some (.ref 16384), some (.int (L_5isAny_4 nv z j4)), some (.int (nI (j4))), some (.int (nI ((voG z (nI (j4)) nv))))]) (st' := []) (by rw [hx6]; rfl) rfl rfl ?_
        refine AR.run g_X5_isAny_29_3 32 [some (.ref 16384), some (.int (L_5isAny_4 nv z j4)), some (.int (nI (j4))), some (.int (nI ((voG z (nI (j4)) nv))))] [.int (nI (3)), .int (nI ((voG z (nI (j4)) nv))), .ref 16384] _ [] rfl trivial ?_
        refine AR.callV1 (16384) [.int (nI ((voG z (nI (j4)) nv))), .int (nI (3))] [] lk_5_62 dc_X5_isAny_32 rfl rfl (s_ofVolume _ (voG z (nI (j4)) nv) 3 (by omega) (by omega)) (by first | rfl | (simp only [nI_add, pk_mul]; first | done | rfl)) rfl ?_
        refine AR.run g_X5_isAny_35_3 38 [some (.ref 16384), some (.int (L_5isAny_4 nv z j4)), some (.int (nI (j4))), some (.int (nI ((voG z (nI (j4)) nv))))] [.int (nI (1)), .int (nI (j4)), .ref 16384, .int (z (11 + 7 * (voG z (nI (j4)) nv) + 3))] _ [] rfl trivial ?_
        refine AR.callV1 (16384) [.int (nI (j4)), .int (nI (1))] [.int (z (11 + 7 * (voG z (nI (j4)) nv) + 3))] lk_5_72 dc_X5_isAny_38 rfl rfl (s_ofCradle _ j4 1 (by omega) (by omega)) (by first | rfl | (simp only [nI_add, pk_mul]; first | done | rfl)) rfl ?_
        refine AR.gt2 (tgt := 57) dc_X5_isAny_41 (by decide) (fun c41_7 => ?_) (fun c41_7 => ?_)
        · refine AR.run g_X5_isAny_57_4 4 [some (.ref 16384), some (.int (nI (0))), some (.int ((nI (j4)) + (nI (1)))), some (.int (nI ((voG z (nI (j4)) nv))))] [] _ [] rfl trivial ?_
          refine AR.drop (L' := [some (.ref 16384), some (.int (nI (0))), some (.int ((nI (j4)) + (nI (1)))), none]) ⟨rfl, rfl, rfl, trivial⟩ ?_
          have e8 : L_5isAny_4 nv z (j4 + 1) = (nI (0)) := by rw [L_5isAny_4, B_5isAny_4, if_pos c21_2, if_neg c26_4, if_pos c41_7]
          exact AR.cast (L' := [some (.ref 16384), some (.int (L_5isAny_4 nv z (j4 + 1))), some (.int (nI (j4 + 1))), none]) (by rw [e8, nI_add]) rfl rfl (ih4 (by rw [e8]; first | exact Or.inl rfl | exact Or.inr rfl))
        · refine AR.run g_X5_isAny_44_2 46 [some (.ref 16384), some (.int (L_5isAny_4 nv z j4)), some (.int (nI (j4))), some (.int (nI ((voG z (nI (j4)) nv))))] [.int (nI ((voG z (nI (j4)) nv))), .ref 16384] _ [] rfl trivial ?_
          refine AR.callV1 (16384) [.int (nI ((voG z (nI (j4)) nv)))] [] lk_5_75 dc_X5_isAny_46 rfl rfl (s_nextLeaf _ (voG z (nI (j4)) nv) (by omega) (by first | assumption | exact (hLV (voG z (nI (j4)) nv) (by omega)).1) (by first | assumption | exact (hLV (voG z (nI (j4)) nv) (by omega)).2)) (by first | rfl | (simp only [nI_add, pk_mul]; first | done | rfl)) rfl ?_
          refine AR.run g_X5_isAny_49_1 50 [some (.ref 16384), some (.int (L_5isAny_4 nv z j4)), some (.int (nI (j4))), some (.int (nI ((voG z (nI (j4)) nv))))] [.int (-1), .int (oI (nlO z (voG z (nI (j4)) nv) (lv z (voG z (nI (j4)) nv))))] _ [] rfl trivial ?_
          refine AR.eq2 (tgt := 57) dc_X5_isAny_50 (by decide) (fun c50_9 => ?_) (fun c50_9 => ?_)
          · refine AR.run g_X5_isAny_57_4 4 [some (.ref 16384), some (.int (nI (0))), some (.int ((nI (j4)) + (nI (1)))), some (.int (nI ((voG z (nI (j4)) nv))))] [] _ [] rfl trivial ?_
            refine AR.drop (L' := [some (.ref 16384), some (.int (nI (0))), some (.int ((nI (j4)) + (nI (1)))), none]) ⟨rfl, rfl, rfl, trivial⟩ ?_
            have e10 : L_5isAny_4 nv z (j4 + 1) = (nI (0)) := by rw [L_5isAny_4, B_5isAny_4, if_pos c21_2, if_neg c26_4, if_neg c41_7, if_pos c50_9]
            exact AR.cast (L' := [some (.ref 16384), some (.int (L_5isAny_4 nv z (j4 + 1))), some (.int (nI (j4 + 1))), none]) (by rw [e10, nI_add]) rfl rfl (ih4 (by rw [e10]; first | exact Or.inl rfl | exact Or.inr rfl))
          · refine AR.run g_X5_isAny_53_5 4 [some (.ref 16384), some (.int (nI (1))), some (.int ((nI (j4)) + (nI (1)))), some (.int (nI ((voG z (nI (j4)) nv))))] [] _ [] rfl trivial ?_
            refine AR.drop (L' := [some (.ref 16384), some (.int (nI (1))), some (.int ((nI (j4)) + (nI (1)))), none]) ⟨rfl, rfl, rfl, trivial⟩ ?_
            have e11 : L_5isAny_4 nv z (j4 + 1) = (nI (1)) := by rw [L_5isAny_4, B_5isAny_4, if_pos c21_2, if_neg c26_4, if_neg c41_7, if_neg c50_9]
            exact AR.cast (L' := [some (.ref 16384), some (.int (L_5isAny_4 nv z (j4 + 1))), some (.int (nI (j4 + 1))), none]) (by rw [e11, nI_add]) rfl rfl (ih4 (by rw [e11]; first | exact Or.inl rfl | exact Or.inr rfl))
  · refine AR.run g_X5_isAny_4_4 10 [some (.ref 16384), some (.int (L_5isAny_4 nv z nc)), some (.int (nI (nc))), none] [.int (nI (1)), .ref 16385, .int (nI (nc))] _ [] rfl trivial ?_
    refine AR.ald (n := 0) (e := 1) ok_X5_isAny_10 (by first | rfl | (simp only [nI_add, pk_mul]; first | done | rfl)) rfl (by omega) (by first | decide | omega) ?_
    refine AR.top hZ.2.1.1 ?_
    refine AR.ge2N (tgt := 65) (a := nc) (b := nc) dc_X5_isAny_11 (by decide) (by first | rfl | (simp only [nI_add, pk_mul]; first | done | rfl)) (by first | rfl | (simp only [nI_add, pk_mul]; first | done | rfl)) (by omega) (by omega) (fun c11_12 => ?_) (fun c11_12 => absurd c11_12 (by omega))
    refine AR.run g_X5_isAny_65_1 66 [some (.ref 16384), some (.int (L_5isAny_4 nv z nc)), some (.int (nI (nc))), none] [.int (L_5isAny_4 nv z nc)] _ [] rfl trivial ?_
    exact AR.retZ dc_X5_isAny_66 rfl hI4 rfl rfl
def B_5quickestNow_4 (v : Nat) (z : Nat → Int32) (j4 : Nat) (x4_2 : Int32) : (Int32) := if (z (111 + 4 * j4 + 1)) = 0 then if x4_2 = (-1) then (nI (j4)) else if (wayZ z v (x4_2.toNatClampNeg)) ≤ (wayZ z v j4) then (nI (x4_2.toNatClampNeg)) else (nI (j4)) else x4_2
def L_5quickestNow_4 (v : Nat) (z : Nat → Int32) : Nat → (Int32)
  | 0 => -1
  | j + 1 => B_5quickestNow_4 v z j (L_5quickestNow_4 v z  j)
theorem g_X5_quickestNow_0_4 : ab_oks M_X5_quickestNow [(0, .iconst (-1), 1, 0, 0, 0, .int (-1)), (1, .istore_n 2, 1, 2, 0, 0, .null), (2, .iconst 0, 1, 0, 0, 0, .int (nI (0))), (3, .istore_n 3, 1, 3, 0, 0, .null)] = true := by decide +kernel
theorem g_X5_quickestNow_4_4 : ab_oks M_X5_quickestNow [(4, .iload_n 3, 1, 3, 0, 0, .null), (5, .aload_n 0, 1, 0, 0, 0, .null), (6, .getfield 7, 3, 5, 0, 936, .null), (9, .iconst 2, 1, 0, 0, 0, .int (nI (2)))] = true := by decide +kernel
theorem ok_X5_quickestNow_10 : ab_ok M_X5_quickestNow (10, .iaload, 1, 0, 0, 0, .null) = true := by decide +kernel
theorem dc_X5_quickestNow_11 : decode (AM.bytes M_X5_quickestNow) 11 = .ok (.if_icmp .ge 56, 3) := by decide +kernel
theorem g_X5_quickestNow_14_3 : ab_oks M_X5_quickestNow [(14, .aload_n 0, 1, 0, 0, 0, .null), (15, .iload_n 3, 1, 3, 0, 0, .null), (16, .iconst 1, 1, 0, 0, 0, .int (nI (1)))] = true := by decide +kernel
theorem dc_X5_quickestNow_17 : decode (AM.bytes M_X5_quickestNow) 17 = .ok (.invokevirtual 58, 3) := by decide +kernel
theorem dc_X5_quickestNow_20 : decode (AM.bytes M_X5_quickestNow) 20 = .ok (.ifCond .ne 7, 3) := by decide +kernel
theorem g_X5_quickestNow_27_3 : ab_oks M_X5_quickestNow [(27, .iconst 0, 1, 0, 0, 0, .int (nI (0))), (28, .istore 4, 2, 4, 0, 0, .null), (30, .iload 4, 2, 4, 0, 0, .null)] = true := by decide +kernel
theorem dc_X5_quickestNow_32 : decode (AM.bytes M_X5_quickestNow) 32 = .ok (.ifCond .eq 27, 3) := by decide +kernel
theorem g_X5_quickestNow_59_4 : ab_oks M_X5_quickestNow [(59, .iload_n 2, 1, 2, 0, 0, .null), (60, .istore_n 2, 1, 2, 0, 0, .null), (61, .iinc 3 1, 3, 3, 0, 0, .int (nI (1))), (64, .goto (-60), 3, 4, 0, 0, .null)] = true := by decide +kernel
theorem g_X5_quickestNow_23_4 : ab_oks M_X5_quickestNow [(23, .iconst 1, 1, 0, 0, 0, .int (nI (1))), (24, .goto 4, 3, 28, 0, 0, .null), (28, .istore 4, 2, 4, 0, 0, .null), (30, .iload 4, 2, 4, 0, 0, .null)] = true := by decide +kernel
theorem g_X5_quickestNow_35_2 : ab_oks M_X5_quickestNow [(35, .iload_n 2, 1, 2, 0, 0, .null), (36, .iconst (-1), 1, 0, 0, 0, .int (-1))] = true := by decide +kernel
theorem dc_X5_quickestNow_37 : decode (AM.bytes M_X5_quickestNow) 37 = .ok (.if_icmp .eq 18, 3) := by decide +kernel
theorem g_X5_quickestNow_55_5 : ab_oks M_X5_quickestNow [(55, .iload_n 3, 1, 3, 0, 0, .null), (56, .goto 4, 3, 60, 0, 0, .null), (60, .istore_n 2, 1, 2, 0, 0, .null), (61, .iinc 3 1, 3, 3, 0, 0, .int (nI (1))), (64, .goto (-60), 3, 4, 0, 0, .null)] = true := by decide +kernel
theorem g_X5_quickestNow_40_3 : ab_oks M_X5_quickestNow [(40, .aload_n 0, 1, 0, 0, 0, .null), (41, .iload_n 1, 1, 1, 0, 0, .null), (42, .iload_n 3, 1, 3, 0, 0, .null)] = true := by decide +kernel
theorem lk_5_82 : ab_lkV "LeafCradlesModel" 82 M_X5_way 2 [1075, 1077, 47, 97, 1078] = true := by decide +kernel
theorem dc_X5_quickestNow_43 : decode (AM.bytes M_X5_quickestNow) 43 = .ok (.invokevirtual 82, 3) := by decide +kernel
theorem g_X5_quickestNow_46_3 : ab_oks M_X5_quickestNow [(46, .aload_n 0, 1, 0, 0, 0, .null), (47, .iload_n 1, 1, 1, 0, 0, .null), (48, .iload_n 2, 1, 2, 0, 0, .null)] = true := by decide +kernel
theorem dc_X5_quickestNow_49 : decode (AM.bytes M_X5_quickestNow) 49 = .ok (.invokevirtual 82, 3) := by decide +kernel
theorem dc_X5_quickestNow_52 : decode (AM.bytes M_X5_quickestNow) 52 = .ok (.if_icmp .ge 7, 3) := by decide +kernel
theorem g_X5_quickestNow_67_1 : ab_oks M_X5_quickestNow [(67, .iload_n 2, 1, 2, 0, 0, .null)] = true := by decide +kernel
theorem dc_X5_quickestNow_68 : decode (AM.bytes M_X5_quickestNow) 68 = .ok (.ireturn, 1) := by decide +kernel
set_option maxRecDepth 100000 in
set_option maxHeartbeats 4000000 in
theorem s_5quickestNow {E : AE} (d : Nat) (v : Nat) {nv : Nat} {nc : Nat} {nr : Nat} {ne : Nat}  {o0 a0 t0 p0 u0 l0 : List AC} {z sa ro te fr to un ga pi be : Nat → Int32} {bm en sta sv ln th : Int32} {hh : Int64} (hZ : ZI z nv nc nr ne) (hv : v < nv) : CT E M_X5_quickestNow (d + 2) [.ref 16384, .int (nI (v))] (hp o0 a0 t0 p0 (mo z sa ro te fr to un ga pi be bm en sta sv ln th hh) u0 l0) (.inl (some (.int (L_5quickestNow_4 v z nr)))) (hp o0 a0 t0 p0 (mo z sa ro te fr to un ga pi be bm en sta sv ln th hh) u0 l0) 0 0 := by
  obtain ⟨⟨hnv, h12⟩, ⟨hnc, h4⟩, ⟨hnr, h3⟩, ⟨hne, h60⟩, hLV⟩ := id hZ
  refine CT.of (L := [some (.ref 16384), some (.int (nI (v))), none, none, none]) rfl rfl ?_
  refine AR.run g_X5_quickestNow_0_4 4 [some (.ref 16384), some (.int (nI (v))), some (.int (-1)), some (.int (nI (0))), none] [] _ [] rfl trivial ?_
  refine AR.cast (L' := [some (.ref 16384), some (.int (nI (v))), some (.int (L_5quickestNow_4 v z 0)), some (.int (nI (0))), none]) (by first | rfl | (rw [L_5quickestNow_4])) rfl rfl (AR.loopN nr (fun j4 => [some (.ref 16384), some (.int (nI (v))), some (.int (L_5quickestNow_4 v z j4)), some (.int (nI (j4))), none]) (fun j4 => (hp o0 a0 t0 p0 (mo z sa ro te fr to un ga pi be bm en sta sv ln th hh) u0 l0)) (fun j4 => QI 3 (L_5quickestNow_4 v z j4)) (fun j4 hj4 hI4 ih4 => ?_) (fun hI4 => ?_) 0 (by omega) (Or.inl rfl))
  · refine AR.run g_X5_quickestNow_4_4 10 [some (.ref 16384), some (.int (nI (v))), some (.int (L_5quickestNow_4 v z j4)), some (.int (nI (j4))), none] [.int (nI (2)), .ref 16385, .int (nI (j4))] _ [] rfl trivial ?_
    refine AR.ald (n := 0) (e := 2) ok_X5_quickestNow_10 (by first | rfl | (simp only [nI_add, pk_mul]; first | done | rfl)) rfl (by omega) (by first | decide | omega) ?_
    refine AR.top hZ.2.2.1.1 ?_
    refine AR.ge2N (tgt := 67) (a := j4) (b := nr) dc_X5_quickestNow_11 (by decide) (by first | rfl | (simp only [nI_add, pk_mul]; first | done | rfl)) (by first | rfl | (simp only [nI_add, pk_mul]; first | done | rfl)) (by omega) (by omega) (fun c11_1 => absurd c11_1 (by omega)) (fun c11_1 => ?_)
    refine AR.run g_X5_quickestNow_14_3 17 [some (.ref 16384), some (.int (nI (v))), some (.int (L_5quickestNow_4 v z j4)), some (.int (nI (j4))), none] [.int (nI (1)), .int (nI (j4)), .ref 16384] _ [] rfl trivial ?_
    refine AR.callV1 (16384) [.int (nI (j4)), .int (nI (1))] [] lk_5_58 dc_X5_quickestNow_17 rfl rfl (s_ofCarrier _ j4 1 (by omega) (by omega)) (by first | rfl | (simp only [nI_add, pk_mul]; first | done | rfl)) rfl ?_
    refine AR.ne (tgt := 27) dc_X5_quickestNow_20 (by decide) (fun c20_2 => ?_) (fun c20_2 => ?_)
    · refine AR.run g_X5_quickestNow_27_3 32 [some (.ref 16384), some (.int (nI (v))), some (.int (L_5quickestNow_4 v z j4)), some (.int (nI (j4))), some (.int (nI (0)))] [.int (nI (0))] _ [] rfl trivial ?_
      refine AR.eqN (tgt := 59) (a := 0) dc_X5_quickestNow_32 (by decide) (by first | rfl | (simp only [nI_add, pk_mul]; first | done | rfl)) (by omega) (fun c32_3 => ?_) (fun c32_3 => absurd c32_3 (by omega))
      refine AR.run g_X5_quickestNow_59_4 4 [some (.ref 16384), some (.int (nI (v))), some (.int (L_5quickestNow_4 v z j4)), some (.int ((nI (j4)) + (nI (1)))), some (.int (nI (0)))] [] _ [] rfl trivial ?_
      refine AR.drop (L' := [some (.ref 16384), some (.int (nI (v))), some (.int (L_5quickestNow_4 v z j4)), some (.int ((nI (j4)) + (nI (1)))), none]) ⟨rfl, rfl, rfl, rfl, trivial⟩ ?_
      have e4 : L_5quickestNow_4 v z (j4 + 1) = (L_5quickestNow_4 v z j4) := by rw [L_5quickestNow_4, B_5quickestNow_4, if_neg c20_2]
      exact AR.cast (L' := [some (.ref 16384), some (.int (nI (v))), some (.int (L_5quickestNow_4 v z (j4 + 1))), some (.int (nI (j4 + 1))), none]) (by rw [e4, nI_add]) rfl rfl (ih4 (by rw [e4]; first | exact hI4 | exact Or.inr ⟨_, by omega, rfl⟩))
    · refine AR.run g_X5_quickestNow_23_4 32 [some (.ref 16384), some (.int (nI (v))), some (.int (L_5quickestNow_4 v z j4)), some (.int (nI (j4))), some (.int (nI (1)))] [.int (nI (1))] _ [] rfl trivial ?_
      refine AR.eqN (tgt := 59) (a := 1) dc_X5_quickestNow_32 (by decide) (by first | rfl | (simp only [nI_add, pk_mul]; first | done | rfl)) (by omega) (fun c32_5 => absurd c32_5 (by omega)) (fun c32_5 => ?_)
      refine AR.run g_X5_quickestNow_35_2 37 [some (.ref 16384), some (.int (nI (v))), some (.int (L_5quickestNow_4 v z j4)), some (.int (nI (j4))), some (.int (nI (1)))] [.int (-1), .int (L_5quickestNow_4 v z j4)] _ [] rfl trivial ?_
      refine AR.eq2 (tgt := 55) dc_X5_quickestNow_37 (by decide) (fun c37_6 => ?_) (fun c37_6 => ?_)
      · refine AR.run g_X5_quickestNow_55_5 4 [some (.ref 16384), some (.int (nI (v))), some (.int (nI (j4))), some (.int ((nI (j4)) + (nI (1)))), some (.int (nI (1)))] [] _ [] rfl trivial ?_
        refine AR.drop (L' := [some (.ref 16384), some (.int (nI (v))), some (.int (nI (j4))), some (.int ((nI (j4)) + (nI (1)))), none]) ⟨rfl, rfl, rfl, rfl, trivial⟩ ?_
        have e7 : L_5quickestNow_4 v z (j4 + 1) = (nI (j4)) := by rw [L_5quickestNow_4, B_5quickestNow_4, if_pos c20_2, if_pos c37_6]
        exact AR.cast (L' := [some (.ref 16384), some (.int (nI (v))), some (.int (L_5quickestNow_4 v z (j4 + 1))), some (.int (nI (j4 + 1))), none]) (by rw [e7, nI_add]) rfl rfl (ih4 (by rw [e7]; first | exact hI4 | exact Or.inr ⟨_, by omega, rfl⟩))
      · obtain ⟨hx9, hy9⟩ := QI_get (by omega) hI4 (by assumption)
        refine AR.cast (L' := [some (.ref 16384), some (.int (nI (v))), some (.int (nI ((L_5quickestNow_4 v z j4).toNatClampNeg))), some (.int (nI (j4))), some (.int (nI (1)))]) (by rw [← hx9]) rfl rfl ?_
        refine AR.run g_X5_quickestNow_40_3 43 [some (.ref 16384), some (.int (nI (v))), some (.int (nI ((L_5quickestNow_4 v z j4).toNatClampNeg))), some (.int (nI (j4))), some (.int (nI (1)))] [.int (nI (j4)), .int (nI (v)), .ref 16384] _ [] rfl trivial ?_
        refine AR.callV1 (16384) [.int (nI (v)), .int (nI (j4))] [] lk_5_82 dc_X5_quickestNow_43 rfl rfl (s_way _ v j4 (by omega) (by omega)) (by first | rfl | (simp only [nI_add, pk_mul]; first | done | rfl)) rfl ?_
        refine AR.run g_X5_quickestNow_46_3 49 [some (.ref 16384), some (.int (nI (v))), some (.int (nI ((L_5quickestNow_4 v z j4).toNatClampNeg))), some (.int (nI (j4))), some (.int (nI (1)))] [.int (nI ((L_5quickestNow_4 v z j4).toNatClampNeg)), .int (nI (v)), .ref 16384, .int (wayZ z v j4)] _ [] rfl trivial ?_
        refine AR.callV1 (16384) [.int (nI (v)), .int (nI ((L_5quickestNow_4 v z j4).toNatClampNeg))] [.int (wayZ z v j4)] lk_5_82 dc_X5_quickestNow_49 rfl rfl (s_way _ v ((L_5quickestNow_4 v z j4).toNatClampNeg) (by omega) (by omega)) (by first | rfl | (simp only [nI_add, pk_mul]; first | done | rfl)) rfl ?_
        refine AR.ge2 (tgt := 59) dc_X5_quickestNow_52 (by decide) (fun c52_8 => ?_) (fun c52_8 => ?_)
        · refine AR.run g_X5_quickestNow_59_4 4 [some (.ref 16384), some (.int (nI (v))), some (.int (nI ((L_5quickestNow_4 v z j4).toNatClampNeg))), some (.int ((nI (j4)) + (nI (1)))), some (.int (nI (1)))] [] _ [] rfl trivial ?_
          refine AR.drop (L' := [some (.ref 16384), some (.int (nI (v))), some (.int (nI ((L_5quickestNow_4 v z j4).toNatClampNeg))), some (.int ((nI (j4)) + (nI (1)))), none]) ⟨rfl, rfl, rfl, rfl, trivial⟩ ?_
          have e9 : L_5quickestNow_4 v z (j4 + 1) = (nI ((L_5quickestNow_4 v z j4).toNatClampNeg)) := by rw [L_5quickestNow_4, B_5quickestNow_4, if_pos c20_2, if_neg c37_6, if_pos c52_8]
          exact AR.cast (L' := [some (.ref 16384), some (.int (nI (v))), some (.int (L_5quickestNow_4 v z (j4 + 1))), some (.int (nI (j4 + 1))), none]) (by rw [e9, nI_add]) rfl rfl (ih4 (by rw [e9]; first | exact hI4 | exact Or.inr ⟨_, by omega, rfl⟩))
        · refine AR.run g_X5_quickestNow_55_5 4 [some (.ref 16384), some (.int (nI (v))), some (.int (nI (j4))), some (.int ((nI (j4)) + (nI (1)))), some (.int (nI (1)))] [] _ [] rfl trivial ?_
          refine AR.drop (L' := [some (.ref 16384), some (.int (nI (v))), some (.int (nI (j4))), some (.int ((nI (j4)) + (nI (1)))), none]) ⟨rfl, rfl, rfl, rfl, trivial⟩ ?_
          have e10 : L_5quickestNow_4 v z (j4 + 1) = (nI (j4)) := by rw [L_5quickestNow_4, B_5quickestNow_4, if_pos c20_2, if_neg c37_6, if_neg c52_8]
          exact AR.cast (L' := [some (.ref 16384), some (.int (nI (v))), some (.int (L_5quickestNow_4 v z (j4 + 1))), some (.int (nI (j4 + 1))), none]) (by rw [e10, nI_add]) rfl rfl (ih4 (by rw [e10]; first | exact hI4 | exact Or.inr ⟨_, by omega, rfl⟩))
  · refine AR.run g_X5_quickestNow_4_4 10 [some (.ref 16384), some (.int (nI (v))), some (.int (L_5quickestNow_4 v z nr)), some (.int (nI (nr))), none] [.int (nI (2)), .ref 16385, .int (nI (nr))] _ [] rfl trivial ?_
    refine AR.ald (n := 0) (e := 2) ok_X5_quickestNow_10 (by first | rfl | (simp only [nI_add, pk_mul]; first | done | rfl)) rfl (by omega) (by first | decide | omega) ?_
    refine AR.top hZ.2.2.1.1 ?_
    refine AR.ge2N (tgt := 67) (a := nr) (b := nr) dc_X5_quickestNow_11 (by decide) (by first | rfl | (simp only [nI_add, pk_mul]; first | done | rfl)) (by first | rfl | (simp only [nI_add, pk_mul]; first | done | rfl)) (by omega) (by omega) (fun c11_11 => ?_) (fun c11_11 => absurd c11_11 (by omega))
    refine AR.run g_X5_quickestNow_67_1 68 [some (.ref 16384), some (.int (nI (v))), some (.int (L_5quickestNow_4 v z nr)), some (.int (nI (nr))), none] [.int (L_5quickestNow_4 v z nr)] _ [] rfl trivial ?_
    exact AR.retI dc_X5_quickestNow_68 rfl rfl rfl
