theorem wiV_t {v n : Nat} (h : v < n) (hn : n < 2147483648) : wi (nI v) (nI 0) (nI n - nI 1) = nI 1 := by
  obtain ⟨m, rfl⟩ : ∃ m, n = m + 1 := ⟨n - 1, by omega⟩
  unfold wi
  rw [nI_p1, if_pos ⟨nI_le (Nat.zero_le _) (by omega), nI_le (by omega) (by omega)⟩]
  rfl
theorem wiV_f {x : Int32} {n : Nat} (hn : n < 2147483648) (h : ¬ ∃ v : Nat, v < n ∧ x = nI v) : wi x (nI 0) (nI n - nI 1) = nI 0 := by
  unfold wi
  rw [if_neg]
  · rfl
  · rintro ⟨h1, h2⟩
    have hx : ¬ x < 0 := fun q => by
      have h1' : (0 : Int32) ≤ x := h1
      rw [Int32.le_iff_toInt_le] at h1'
      rw [Int32.lt_iff_toInt_lt] at q
      omega
    obtain ⟨j, hj, rfl⟩ := nI_of hx
    refine h ⟨j, ?_, rfl⟩
    cases n with
    | zero =>
      exfalso
      have h3 : nI j ≤ -1 := h2
      rw [Int32.le_iff_toInt_le, nI_toInt hj] at h3
      have h4 : (-1 : Int32).toInt = -1 := by decide
      omega
    | succ m =>
      rw [nI_p1, nI_leI hj (by omega)] at h2
      omega
theorem g_X5_isVolume_0_5 : ab_oks M_X5_isVolume [(0, .iload_n 1, 1, 1, 0, 0, .null), (1, .iconst 0, 1, 0, 0, 0, .int (nI (0))), (2, .aload_n 0, 1, 0, 0, 0, .null), (3, .getfield 7, 3, 5, 0, 936, .null), (6, .iconst 0, 1, 0, 0, 0, .int (nI (0)))] = true := by decide +kernel
theorem ok_X5_isVolume_7 : ab_ok M_X5_isVolume (7, .iaload, 1, 0, 0, 0, .null) = true := by decide +kernel
theorem g_X5_isVolume_8_2 : ab_oks M_X5_isVolume [(8, .iconst 1, 1, 0, 0, 0, .int (nI (1))), (9, .isub, 1, 0, 0, 0, .null)] = true := by decide +kernel
theorem lk_5_44 : ab_lkS "LeafCradlesModel" 44 M_X5_within 3 [996, 997, 97, 998] = true := by decide +kernel
theorem dc_X5_isVolume_10 : decode (AM.bytes M_X5_isVolume) 10 = .ok (.invokestatic 44, 3) := by decide +kernel
theorem dc_X5_isVolume_13 : decode (AM.bytes M_X5_isVolume) 13 = .ok (.ireturn, 1) := by decide +kernel
set_option maxRecDepth 100000 in
set_option maxHeartbeats 4000000 in
theorem s_isVolume {E : AE} (d : Nat) (v : Int32) {nv : Nat} {o0 a0 t0 p0 u0 l0 : List AC} {z sa ro te fr to un ga pi be : Nat → Int32} {bm en sta sv ln th : Int32} {hh : Int64} (hnv : z 0 = nI nv) : CT E M_X5_isVolume (d + 1) [.ref 16384, .int (v)] (hp o0 a0 t0 p0 (mo z sa ro te fr to un ga pi be bm en sta sv ln th hh) u0 l0) (.inl (some (.int (wi v (nI 0) ((nI nv) - (nI 1)))))) (hp o0 a0 t0 p0 (mo z sa ro te fr to un ga pi be bm en sta sv ln th hh) u0 l0) 0 0 := by
  refine CT.of (L := [some (.ref 16384), some (.int (v))]) rfl rfl ?_
  refine AR.run g_X5_isVolume_0_5 7 [some (.ref 16384), some (.int (v))] [.int (nI (0)), .ref 16385, .int (nI (0)), .int (v)] _ [] rfl trivial ?_
  refine AR.ald (n := 0) (e := 0) ok_X5_isVolume_7 (by first | rfl | (simp only [nI_add, pk_mul]; first | done | rfl)) rfl (by omega) (by first | decide | omega) ?_
  refine AR.top hnv ?_
  refine AR.run g_X5_isVolume_8_2 10 [some (.ref 16384), some (.int (v))] [.int ((nI (nv)) - (nI (1))), .int (nI (0)), .int (v)] _ [] rfl trivial ?_
  refine AR.callS1 [.int (v), .int (nI (0)), .int ((nI (nv)) - (nI (1)))] [] lk_5_44 dc_X5_isVolume_10 (s_within _ v (nI (0)) ((nI (nv)) - (nI (1))) ) (by first | rfl | (simp only [nI_add, pk_mul]; first | done | rfl)) rfl ?_
  exact AR.retZ dc_X5_isVolume_13 rfl (wi01 _ _ _) (by first | rfl | (simp only [nI_add, pk_mul]; first | done | rfl)) rfl
theorem g_X5_isCradle_0_5 : ab_oks M_X5_isCradle [(0, .iload_n 1, 1, 1, 0, 0, .null), (1, .iconst 0, 1, 0, 0, 0, .int (nI (0))), (2, .aload_n 0, 1, 0, 0, 0, .null), (3, .getfield 7, 3, 5, 0, 936, .null), (6, .iconst 1, 1, 0, 0, 0, .int (nI (1)))] = true := by decide +kernel
theorem ok_X5_isCradle_7 : ab_ok M_X5_isCradle (7, .iaload, 1, 0, 0, 0, .null) = true := by decide +kernel
theorem g_X5_isCradle_8_2 : ab_oks M_X5_isCradle [(8, .iconst 1, 1, 0, 0, 0, .int (nI (1))), (9, .isub, 1, 0, 0, 0, .null)] = true := by decide +kernel
theorem dc_X5_isCradle_10 : decode (AM.bytes M_X5_isCradle) 10 = .ok (.invokestatic 44, 3) := by decide +kernel
theorem dc_X5_isCradle_13 : decode (AM.bytes M_X5_isCradle) 13 = .ok (.ireturn, 1) := by decide +kernel
set_option maxRecDepth 100000 in
set_option maxHeartbeats 4000000 in
theorem s_isCradle {E : AE} (d : Nat) (v : Int32) {nc : Nat} {o0 a0 t0 p0 u0 l0 : List AC} {z sa ro te fr to un ga pi be : Nat → Int32} {bm en sta sv ln th : Int32} {hh : Int64} (hnc : z 1 = nI nc) : CT E M_X5_isCradle (d + 1) [.ref 16384, .int (v)] (hp o0 a0 t0 p0 (mo z sa ro te fr to un ga pi be bm en sta sv ln th hh) u0 l0) (.inl (some (.int (wi v (nI 0) ((nI nc) - (nI 1)))))) (hp o0 a0 t0 p0 (mo z sa ro te fr to un ga pi be bm en sta sv ln th hh) u0 l0) 0 0 := by
  refine CT.of (L := [some (.ref 16384), some (.int (v))]) rfl rfl ?_
  refine AR.run g_X5_isCradle_0_5 7 [some (.ref 16384), some (.int (v))] [.int (nI (1)), .ref 16385, .int (nI (0)), .int (v)] _ [] rfl trivial ?_
  refine AR.ald (n := 0) (e := 1) ok_X5_isCradle_7 (by first | rfl | (simp only [nI_add, pk_mul]; first | done | rfl)) rfl (by omega) (by first | decide | omega) ?_
  refine AR.top hnc ?_
  refine AR.run g_X5_isCradle_8_2 10 [some (.ref 16384), some (.int (v))] [.int ((nI (nc)) - (nI (1))), .int (nI (0)), .int (v)] _ [] rfl trivial ?_
  refine AR.callS1 [.int (v), .int (nI (0)), .int ((nI (nc)) - (nI (1)))] [] lk_5_44 dc_X5_isCradle_10 (s_within _ v (nI (0)) ((nI (nc)) - (nI (1))) ) (by first | rfl | (simp only [nI_add, pk_mul]; first | done | rfl)) rfl ?_
  exact AR.retZ dc_X5_isCradle_13 rfl (wi01 _ _ _) (by first | rfl | (simp only [nI_add, pk_mul]; first | done | rfl)) rfl
theorem g_X5_isCarrier_0_5 : ab_oks M_X5_isCarrier [(0, .iload_n 1, 1, 1, 0, 0, .null), (1, .iconst 0, 1, 0, 0, 0, .int (nI (0))), (2, .aload_n 0, 1, 0, 0, 0, .null), (3, .getfield 7, 3, 5, 0, 936, .null), (6, .iconst 2, 1, 0, 0, 0, .int (nI (2)))] = true := by decide +kernel
theorem ok_X5_isCarrier_7 : ab_ok M_X5_isCarrier (7, .iaload, 1, 0, 0, 0, .null) = true := by decide +kernel
theorem g_X5_isCarrier_8_2 : ab_oks M_X5_isCarrier [(8, .iconst 1, 1, 0, 0, 0, .int (nI (1))), (9, .isub, 1, 0, 0, 0, .null)] = true := by decide +kernel
theorem dc_X5_isCarrier_10 : decode (AM.bytes M_X5_isCarrier) 10 = .ok (.invokestatic 44, 3) := by decide +kernel
theorem dc_X5_isCarrier_13 : decode (AM.bytes M_X5_isCarrier) 13 = .ok (.ireturn, 1) := by decide +kernel
set_option maxRecDepth 100000 in
set_option maxHeartbeats 4000000 in
theorem s_isCarrier {E : AE} (d : Nat) (v : Int32) {nr : Nat} {o0 a0 t0 p0 u0 l0 : List AC} {z sa ro te fr to un ga pi be : Nat → Int32} {bm en sta sv ln th : Int32} {hh : Int64} (hnr : z 2 = nI nr) : CT E M_X5_isCarrier (d + 1) [.ref 16384, .int (v)] (hp o0 a0 t0 p0 (mo z sa ro te fr to un ga pi be bm en sta sv ln th hh) u0 l0) (.inl (some (.int (wi v (nI 0) ((nI nr) - (nI 1)))))) (hp o0 a0 t0 p0 (mo z sa ro te fr to un ga pi be bm en sta sv ln th hh) u0 l0) 0 0 := by
  refine CT.of (L := [some (.ref 16384), some (.int (v))]) rfl rfl ?_
  refine AR.run g_X5_isCarrier_0_5 7 [some (.ref 16384), some (.int (v))] [.int (nI (2)), .ref 16385, .int (nI (0)), .int (v)] _ [] rfl trivial ?_
  refine AR.ald (n := 0) (e := 2) ok_X5_isCarrier_7 (by first | rfl | (simp only [nI_add, pk_mul]; first | done | rfl)) rfl (by omega) (by first | decide | omega) ?_
  refine AR.top hnr ?_
  refine AR.run g_X5_isCarrier_8_2 10 [some (.ref 16384), some (.int (v))] [.int ((nI (nr)) - (nI (1))), .int (nI (0)), .int (v)] _ [] rfl trivial ?_
  refine AR.callS1 [.int (v), .int (nI (0)), .int ((nI (nr)) - (nI (1)))] [] lk_5_44 dc_X5_isCarrier_10 (s_within _ v (nI (0)) ((nI (nr)) - (nI (1))) ) (by first | rfl | (simp only [nI_add, pk_mul]; first | done | rfl)) rfl ?_
  exact AR.retZ dc_X5_isCarrier_13 rfl (wi01 _ _ _) (by first | rfl | (simp only [nI_add, pk_mul]; first | done | rfl)) rfl
/-- the minutes of a way -/
def wayZ (z : Nat → Int32) (v c : Nat) : Int32 := z 10 * (if z (111 + 4 * c + 0) - z (11 + 7 * v + 0) < 0 then -(z (111 + 4 * c + 0) - z (11 + 7 * v + 0)) else z (111 + 4 * c + 0) - z (11 + 7 * v + 0)) + nI 1
theorem g_X5_way_0_3 : ab_oks M_X5_way [(0, .aload_n 0, 1, 0, 0, 0, .null), (1, .iload_n 2, 1, 2, 0, 0, .null), (2, .iconst 0, 1, 0, 0, 0, .int (nI (0)))] = true := by decide +kernel
theorem lk_5_58 : ab_lkV "LeafCradlesModel" 58 M_X5_ofCarrier 2 [1063, 1065, 44, 97, 1066] = true := by decide +kernel
theorem dc_X5_way_3 : decode (AM.bytes M_X5_way) 3 = .ok (.invokevirtual 58, 3) := by decide +kernel
theorem g_X5_way_6_3 : ab_oks M_X5_way [(6, .aload_n 0, 1, 0, 0, 0, .null), (7, .iload_n 1, 1, 1, 0, 0, .null), (8, .iconst 0, 1, 0, 0, 0, .int (nI (0)))] = true := by decide +kernel
theorem dc_X5_way_9 : decode (AM.bytes M_X5_way) 9 = .ok (.invokevirtual 62, 3) := by decide +kernel
theorem g_X5_way_12_5 : ab_oks M_X5_way [(12, .isub, 1, 0, 0, 0, .null), (13, .istore_n 3, 1, 3, 0, 0, .null), (14, .aload_n 0, 1, 0, 0, 0, .null), (15, .getfield 7, 3, 5, 0, 936, .null), (18, .bipush 10, 2, 0, 0, 0, .int (nI (10)))] = true := by decide +kernel
theorem ok_X5_way_20 : ab_ok M_X5_way (20, .iaload, 1, 0, 0, 0, .null) = true := by decide +kernel
theorem g_X5_way_21_1 : ab_oks M_X5_way [(21, .iload_n 3, 1, 3, 0, 0, .null)] = true := by decide +kernel
theorem dc_X5_way_22 : decode (AM.bytes M_X5_way) 22 = .ok (.ifCond .ge 8, 3) := by decide +kernel
theorem g_X5_way_30_4 : ab_oks M_X5_way [(30, .iload_n 3, 1, 3, 0, 0, .null), (31, .imul, 1, 0, 0, 0, .null), (32, .iconst 1, 1, 0, 0, 0, .int (nI (1))), (33, .iadd, 1, 0, 0, 0, .null)] = true := by decide +kernel
theorem dc_X5_way_34 : decode (AM.bytes M_X5_way) 34 = .ok (.ireturn, 1) := by decide +kernel
theorem g_X5_way_25_6 : ab_oks M_X5_way [(25, .iload_n 3, 1, 3, 0, 0, .null), (26, .ineg, 1, 0, 0, 0, .null), (27, .goto 4, 3, 31, 0, 0, .null), (31, .imul, 1, 0, 0, 0, .null), (32, .iconst 1, 1, 0, 0, 0, .int (nI (1))), (33, .iadd, 1, 0, 0, 0, .null)] = true := by decide +kernel
set_option maxRecDepth 100000 in
set_option maxHeartbeats 4000000 in
theorem s_way {E : AE} (d : Nat) (v c : Nat) (hv : v < 12) (hc : c < 3) {o0 a0 t0 p0 u0 l0 : List AC} {z sa ro te fr to un ga pi be : Nat → Int32} {bm en sta sv ln th : Int32} {hh : Int64} : CT E M_X5_way (d + 1) [.ref 16384, .int (nI (v)), .int (nI (c))] (hp o0 a0 t0 p0 (mo z sa ro te fr to un ga pi be bm en sta sv ln th hh) u0 l0) (.inl (some (.int (wayZ z v c)))) (hp o0 a0 t0 p0 (mo z sa ro te fr to un ga pi be bm en sta sv ln th hh) u0 l0) 0 0 := by
  refine CT.of (L := [some (.ref 16384), some (.int (nI (v))), some (.int (nI (c))), none]) rfl rfl ?_
  refine AR.run g_X5_way_0_3 3 [some (.ref 16384), some (.int (nI (v))), some (.int (nI (c))), none] [.int (nI (0)), .int (nI (c)), .ref 16384] _ [] rfl trivial ?_
  refine AR.callV1 (16384) [.int (nI (c)), .int (nI (0))] [] lk_5_58 dc_X5_way_3 rfl rfl (s_ofCarrier _ c 0 (by omega) (by omega)) (by first | rfl | (simp only [nI_add, pk_mul]; first | done | rfl)) rfl ?_
  refine AR.run g_X5_way_6_3 9 [some (.ref 16384), some (.int (nI (v))), some (.int (nI (c))), none] [.int (nI (0)), .int (nI (v)), .ref 16384, .int (z (111 + 4 * c + 0))] _ [] rfl trivial ?_
  refine AR.callV1 (16384) [.int (nI (v)), .int (nI (0))] [.int (z (111 + 4 * c + 0))] lk_5_62 dc_X5_way_9 rfl rfl (s_ofVolume _ v 0 (by omega) (by omega)) (by first | rfl | (simp only [nI_add, pk_mul]; first | done | rfl)) rfl ?_
  refine AR.run g_X5_way_12_5 20 [some (.ref 16384), some (.int (nI (v))), some (.int (nI (c))), some (.int ((z (111 + 4 * c + 0)) - (z (11 + 7 * v + 0))))] [.int (nI (10)), .ref 16385] _ [] rfl trivial ?_
  refine AR.ald (n := 0) (e := 10) ok_X5_way_20 (by first | rfl | (simp only [nI_add, pk_mul]; first | done | rfl)) rfl (by omega) (by first | decide | omega) ?_
  refine AR.run g_X5_way_21_1 22 [some (.ref 16384), some (.int (nI (v))), some (.int (nI (c))), some (.int ((z (111 + 4 * c + 0)) - (z (11 + 7 * v + 0))))] [.int ((z (111 + 4 * c + 0)) - (z (11 + 7 * v + 0))), .int (z 10)] _ [] rfl trivial ?_
  refine AR.ge (tgt := 30) dc_X5_way_22 (by decide) (fun c22_1 => ?_) (fun c22_1 => ?_)
  · refine AR.run g_X5_way_30_4 34 [some (.ref 16384), some (.int (nI (v))), some (.int (nI (c))), some (.int ((z (111 + 4 * c + 0)) - (z (11 + 7 * v + 0))))] [.int (((z 10) * ((z (111 + 4 * c + 0)) - (z (11 + 7 * v + 0)))) + (nI (1)))] _ [] rfl trivial ?_
    exact AR.retI dc_X5_way_34 rfl (by unfold wayZ; first | (rw [if_pos (by first | assumption | (exact Int32.not_le.mp (by assumption)))]) | (rw [if_neg (by first | assumption | (exact Int32.not_lt.mpr (by assumption)))])) rfl
  · refine AR.run g_X5_way_25_6 34 [some (.ref 16384), some (.int (nI (v))), some (.int (nI (c))), some (.int ((z (111 + 4 * c + 0)) - (z (11 + 7 * v + 0))))] [.int (((z 10) * (-((z (111 + 4 * c + 0)) - (z (11 + 7 * v + 0))))) + (nI (1)))] _ [] rfl trivial ?_
    exact AR.retI dc_X5_way_34 rfl (by unfold wayZ; first | (rw [if_pos (by first | assumption | (exact Int32.not_le.mp (by assumption)))]) | (rw [if_neg (by first | assumption | (exact Int32.not_lt.mpr (by assumption)))])) rfl
theorem g_X5_isLogFull_0_3 : ab_oks M_X5_isLogFull [(0, .aload_n 0, 1, 0, 0, 0, .null), (1, .getfield 7, 3, 5, 0, 936, .null), (4, .iconst 5, 1, 0, 0, 0, .int (nI (5)))] = true := by decide +kernel
theorem ok_X5_isLogFull_5 : ab_ok M_X5_isLogFull (5, .iaload, 1, 0, 0, 0, .null) = true := by decide +kernel
theorem g_X5_isLogFull_6_1 : ab_oks M_X5_isLogFull [(6, .bipush 60, 2, 0, 0, 0, .int (nI (60)))] = true := by decide +kernel
theorem dc_X5_isLogFull_8 : decode (AM.bytes M_X5_isLogFull) 8 = .ok (.if_icmp .ne 7, 3) := by decide +kernel
theorem g_X5_isLogFull_15_1 : ab_oks M_X5_isLogFull [(15, .iconst 0, 1, 0, 0, 0, .int (nI (0)))] = true := by decide +kernel
theorem dc_X5_isLogFull_16 : decode (AM.bytes M_X5_isLogFull) 16 = .ok (.ireturn, 1) := by decide +kernel
theorem g_X5_isLogFull_11_2 : ab_oks M_X5_isLogFull [(11, .iconst 1, 1, 0, 0, 0, .int (nI (1))), (12, .goto 4, 3, 16, 0, 0, .null)] = true := by decide +kernel
set_option maxRecDepth 100000 in
set_option maxHeartbeats 4000000 in
theorem s_isLogFull {E : AE} (d : Nat) {ne : Nat} {o0 a0 t0 p0 u0 l0 : List AC} {z sa ro te fr to un ga pi be : Nat → Int32} {bm en sta sv ln th : Int32} {hh : Int64} (hne : z 5 = nI ne) (h60 : ne ≤ 60) : CT E M_X5_isLogFull d [.ref 16384] (hp o0 a0 t0 p0 (mo z sa ro te fr to un ga pi be bm en sta sv ln th hh) u0 l0) (.inl (some (.int (bi (ne = 60))))) (hp o0 a0 t0 p0 (mo z sa ro te fr to un ga pi be bm en sta sv ln th hh) u0 l0) 0 0 := by
  refine CT.of (L := [some (.ref 16384)]) rfl rfl ?_
  refine AR.run g_X5_isLogFull_0_3 5 [some (.ref 16384)] [.int (nI (5)), .ref 16385] _ [] rfl trivial ?_
  refine AR.ald (n := 0) (e := 5) ok_X5_isLogFull_5 (by first | rfl | (simp only [nI_add, pk_mul]; first | done | rfl)) rfl (by omega) (by first | decide | omega) ?_
  refine AR.top hne ?_
  refine AR.run g_X5_isLogFull_6_1 8 [some (.ref 16384)] [.int (nI (60)), .int (nI (ne))] _ [] rfl trivial ?_
  refine AR.ne2N (tgt := 15) dc_X5_isLogFull_8 (by decide) (by first | rfl | (simp only [nI_add, pk_mul]; first | done | rfl)) (by first | rfl | (simp only [nI_add, pk_mul]; first | done | rfl)) (by omega) (by omega) (fun c8_1 => ?_) (fun c8_1 => ?_)
  · refine AR.run g_X5_isLogFull_15_1 16 [some (.ref 16384)] [.int (nI (0))] _ [] rfl trivial ?_
    exact AR.retZ dc_X5_isLogFull_16 rfl (Or.inl rfl) (by unfold bi; first | (rw [if_pos (by assumption)]; rfl) | (rw [if_neg (by assumption)]; rfl)) rfl
  · refine AR.run g_X5_isLogFull_11_2 16 [some (.ref 16384)] [.int (nI (1))] _ [] rfl trivial ?_
    exact AR.retZ dc_X5_isLogFull_16 rfl (Or.inr rfl) (by unfold bi; first | (rw [if_pos (by assumption)]; rfl) | (rw [if_neg (by assumption)]; rfl)) rfl
def idZ (z : Nat → Int32) (nv c : Nat) : Int32 := match vo z (nI c) nv with
  | none => nI 1
  | some v => if 0 < z (11 + 7 * v + 6) then nI 2 else if z (95 + 4 * c + 1) < z (11 + 7 * v + 3) then nI 3 else if nlO z v (lv z v) = none then nI 4 else nI 0
theorem g_X5_idle_0_2 : ab_oks M_X5_idle [(0, .aload_n 0, 1, 0, 0, 0, .null), (1, .iload_n 1, 1, 1, 0, 0, .null)] = true := by decide +kernel
theorem lk_5_69 : ab_lkV "LeafCradlesModel" 69 M_X5_volumeOn 1 [1047, 1049, 40, 97, 1050] = true := by decide +kernel
theorem dc_X5_idle_2 : decode (AM.bytes M_X5_idle) 2 = .ok (.invokevirtual 69, 3) := by decide +kernel
theorem g_X5_idle_5_1 : ab_oks M_X5_idle [(5, .istore_n 2, 1, 2, 0, 0, .null)] = true := by decide +kernel
theorem g_X5_idle_6_2 : ab_oks M_X5_idle [(6, .iload_n 2, 1, 2, 0, 0, .null), (7, .iconst (-1), 1, 0, 0, 0, .int (-1))] = true := by decide +kernel
theorem dc_X5_idle_8 : decode (AM.bytes M_X5_idle) 8 = .ok (.if_icmp .ne 5, 3) := by decide +kernel
theorem g_X5_idle_11_1 : ab_oks M_X5_idle [(11, .iconst 1, 1, 0, 0, 0, .int (nI (1)))] = true := by decide +kernel
theorem dc_X5_idle_12 : decode (AM.bytes M_X5_idle) 12 = .ok (.ireturn, 1) := by decide +kernel
theorem g_X5_idle_13_3 : ab_oks M_X5_idle [(13, .aload_n 0, 1, 0, 0, 0, .null), (14, .iload_n 2, 1, 2, 0, 0, .null), (15, .bipush 6, 2, 0, 0, 0, .int (nI (6)))] = true := by decide +kernel
theorem dc_X5_idle_17 : decode (AM.bytes M_X5_idle) 17 = .ok (.invokevirtual 62, 3) := by decide +kernel
theorem dc_X5_idle_20 : decode (AM.bytes M_X5_idle) 20 = .ok (.ifCond .le 5, 3) := by decide +kernel
theorem g_X5_idle_25_3 : ab_oks M_X5_idle [(25, .aload_n 0, 1, 0, 0, 0, .null), (26, .iload_n 2, 1, 2, 0, 0, .null), (27, .iconst 3, 1, 0, 0, 0, .int (nI (3)))] = true := by decide +kernel
theorem dc_X5_idle_28 : decode (AM.bytes M_X5_idle) 28 = .ok (.invokevirtual 62, 3) := by decide +kernel
theorem g_X5_idle_31_3 : ab_oks M_X5_idle [(31, .aload_n 0, 1, 0, 0, 0, .null), (32, .iload_n 1, 1, 1, 0, 0, .null), (33, .iconst 1, 1, 0, 0, 0, .int (nI (1)))] = true := by decide +kernel
theorem lk_5_72 : ab_lkV "LeafCradlesModel" 72 M_X5_ofCradle 2 [1051, 1053, 41, 97, 1054] = true := by decide +kernel
theorem dc_X5_idle_34 : decode (AM.bytes M_X5_idle) 34 = .ok (.invokevirtual 72, 3) := by decide +kernel
theorem dc_X5_idle_37 : decode (AM.bytes M_X5_idle) 37 = .ok (.if_icmp .le 7, 3) := by decide +kernel
theorem g_X5_idle_44_2 : ab_oks M_X5_idle [(44, .aload_n 0, 1, 0, 0, 0, .null), (45, .iload_n 2, 1, 2, 0, 0, .null)] = true := by decide +kernel
theorem lk_5_75 : ab_lkV "LeafCradlesModel" 75 M_X5_nextLeaf 1 [1055, 1057, 42, 97, 1058] = true := by decide +kernel
theorem dc_X5_idle_46 : decode (AM.bytes M_X5_idle) 46 = .ok (.invokevirtual 75, 3) := by decide +kernel
theorem g_X5_idle_49_1 : ab_oks M_X5_idle [(49, .iconst (-1), 1, 0, 0, 0, .int (-1))] = true := by decide +kernel
theorem dc_X5_idle_50 : decode (AM.bytes M_X5_idle) 50 = .ok (.if_icmp .ne 7, 3) := by decide +kernel
theorem g_X5_idle_57_1 : ab_oks M_X5_idle [(57, .iconst 0, 1, 0, 0, 0, .int (nI (0)))] = true := by decide +kernel
theorem dc_X5_idle_58 : decode (AM.bytes M_X5_idle) 58 = .ok (.ireturn, 1) := by decide +kernel
theorem g_X5_idle_53_2 : ab_oks M_X5_idle [(53, .iconst 4, 1, 0, 0, 0, .int (nI (4))), (54, .goto 4, 3, 58, 0, 0, .null)] = true := by decide +kernel
theorem g_X5_idle_40_2 : ab_oks M_X5_idle [(40, .iconst 3, 1, 0, 0, 0, .int (nI (3))), (41, .goto 17, 3, 58, 0, 0, .null)] = true := by decide +kernel
theorem g_X5_idle_23_1 : ab_oks M_X5_idle [(23, .iconst 2, 1, 0, 0, 0, .int (nI (2)))] = true := by decide +kernel
theorem dc_X5_idle_24 : decode (AM.bytes M_X5_idle) 24 = .ok (.ireturn, 1) := by decide +kernel
set_option maxRecDepth 100000 in
set_option maxHeartbeats 4000000 in
theorem s_idle {E : AE} (d : Nat) (c : Nat) (hc : c < 4) {nv : Nat} {o0 a0 t0 p0 u0 l0 : List AC} {z sa ro te fr to un ga pi be : Nat → Int32} {bm en sta sv ln th : Int32} {hh : Int64} (hnv : z 0 = nI nv) (h12 : nv ≤ 12) (hLV : LV z nv) : CT E M_X5_idle (d + 2) [.ref 16384, .int (nI (c))] (hp o0 a0 t0 p0 (mo z sa ro te fr to un ga pi be bm en sta sv ln th hh) u0 l0) (.inl (some (.int (idZ z nv c)))) (hp o0 a0 t0 p0 (mo z sa ro te fr to un ga pi be bm en sta sv ln th hh) u0 l0) 0 0 := by
  refine CT.of (L := [some (.ref 16384), some (.int (nI (c))), none]) rfl rfl ?_
  refine AR.run g_X5_idle_0_2 2 [some (.ref 16384), some (.int (nI (c))), none] [.int (nI (c)), .ref 16384] _ [] rfl trivial ?_
  refine AR.callV1 (16384) [.int (nI (c))] [] lk_5_69 dc_X5_idle_2 rfl rfl (s_volumeOn _ (nI (c)) hnv h12) (by first | rfl | (simp only [nI_add, pk_mul]; first | done | rfl)) rfl ?_
  refine AR.run g_X5_idle_5_1 6 [some (.ref 16384), some (.int (nI (c))), some (.int (oI (vo z (nI (c)) nv)))] [] _ [] rfl trivial ?_
  rcases vo_cases z (nI c) nv with hvo | ⟨v, hvo, hvn⟩
  · refine AR.cast (L' := [some (.ref 16384), some (.int (nI (c))), some (.int (-1))]) (st' := []) (by rw [hvo]; rfl) rfl rfl ?_
    refine AR.run g_X5_idle_6_2 8 [some (.ref 16384), some (.int (nI (c))), some (.int (-1))] [.int (-1), .int (-1)] _ [] rfl trivial ?_
    refine AR.ne2 (tgt := 13) dc_X5_idle_8 (by decide) (fun c8_1 => absurd c8_1 (fun q => q rfl)) (fun c8_1 => ?_)
    refine AR.run g_X5_idle_11_1 12 [some (.ref 16384), some (.int (nI (c))), some (.int (-1))] [.int (nI (1))] _ [] rfl trivial ?_
    exact AR.retI dc_X5_idle_12 rfl (by first | (simp only [idZ, hvo]; done) | (simp only [idZ, hvo]; (try simp only [nlO_iff (hLV v hvn).2] at *); (repeat' split) <;> first | rfl | (exfalso; first | contradiction | (simp_all; done) | (simp only [Int32.lt_iff_toInt_lt, Int32.le_iff_toInt_le, ← Int32.toInt_inj] at *; omega)))) rfl
  · refine AR.cast (L' := [some (.ref 16384), some (.int (nI (c))), some (.int (nI (v)))]) (st' := []) (by rw [hvo]; rfl) rfl rfl ?_
    refine AR.run g_X5_idle_6_2 8 [some (.ref 16384), some (.int (nI (c))), some (.int (nI (v)))] [.int (-1), .int (nI (v))] _ [] rfl trivial ?_
    refine AR.ne2 (tgt := 13) dc_X5_idle_8 (by decide) (fun c8_2 => ?_) (fun c8_2 => absurd c8_2 (nI_m1 (by omega)))
    refine AR.run g_X5_idle_13_3 17 [some (.ref 16384), some (.int (nI (c))), some (.int (nI (v)))] [.int (nI (6)), .int (nI (v)), .ref 16384] _ [] rfl trivial ?_
    refine AR.callV1 (16384) [.int (nI (v)), .int (nI (6))] [] lk_5_62 dc_X5_idle_17 rfl rfl (s_ofVolume _ v 6 (by omega) (by omega)) (by first | rfl | (simp only [nI_add, pk_mul]; first | done | rfl)) rfl ?_
    refine AR.le (tgt := 25) dc_X5_idle_20 (by decide) (fun c20_3 => ?_) (fun c20_3 => ?_)
    · refine AR.run g_X5_idle_25_3 28 [some (.ref 16384), some (.int (nI (c))), some (.int (nI (v)))] [.int (nI (3)), .int (nI (v)), .ref 16384] _ [] rfl trivial ?_
      refine AR.callV1 (16384) [.int (nI (v)), .int (nI (3))] [] lk_5_62 dc_X5_idle_28 rfl rfl (s_ofVolume _ v 3 (by omega) (by omega)) (by first | rfl | (simp only [nI_add, pk_mul]; first | done | rfl)) rfl ?_
      refine AR.run g_X5_idle_31_3 34 [some (.ref 16384), some (.int (nI (c))), some (.int (nI (v)))] [.int (nI (1)), .int (nI (c)), .ref 16384, .int (z (11 + 7 * v + 3))] _ [] rfl trivial ?_
      refine AR.callV1 (16384) [.int (nI (c)), .int (nI (1))] [.int (z (11 + 7 * v + 3))] lk_5_72 dc_X5_idle_34 rfl rfl (s_ofCradle _ c 1 (by omega) (by omega)) (by first | rfl | (simp only [nI_add, pk_mul]; first | done | rfl)) rfl ?_
      refine AR.le2 (tgt := 44) dc_X5_idle_37 (by decide) (fun c37_4 => ?_) (fun c37_4 => ?_)
      · refine AR.run g_X5_idle_44_2 46 [some (.ref 16384), some (.int (nI (c))), some (.int (nI (v)))] [.int (nI (v)), .ref 16384] _ [] rfl trivial ?_
        refine AR.callV1 (16384) [.int (nI (v))] [] lk_5_75 dc_X5_idle_46 rfl rfl (s_nextLeaf _ v (by omega) (by first | assumption | exact (hLV v (by omega)).1) (by first | assumption | exact (hLV v (by omega)).2)) (by first | rfl | (simp only [nI_add, pk_mul]; first | done | rfl)) rfl ?_
        refine AR.run g_X5_idle_49_1 50 [some (.ref 16384), some (.int (nI (c))), some (.int (nI (v)))] [.int (-1), .int (oI (nlO z v (lv z v)))] _ [] rfl trivial ?_
        refine AR.ne2 (tgt := 57) dc_X5_idle_50 (by decide) (fun c50_5 => ?_) (fun c50_5 => ?_)
        · refine AR.run g_X5_idle_57_1 58 [some (.ref 16384), some (.int (nI (c))), some (.int (nI (v)))] [.int (nI (0))] _ [] rfl trivial ?_
          exact AR.retI dc_X5_idle_58 rfl (by first | (simp only [idZ, hvo]; done) | (simp only [idZ, hvo]; (try simp only [nlO_iff (hLV v hvn).2] at *); (repeat' split) <;> first | rfl | (exfalso; first | contradiction | (simp_all; done) | (simp only [Int32.lt_iff_toInt_lt, Int32.le_iff_toInt_le, ← Int32.toInt_inj] at *; omega)))) rfl
        · refine AR.run g_X5_idle_53_2 58 [some (.ref 16384), some (.int (nI (c))), some (.int (nI (v)))] [.int (nI (4))] _ [] rfl trivial ?_
          exact AR.retI dc_X5_idle_58 rfl (by first | (simp only [idZ, hvo]; done) | (simp only [idZ, hvo]; (try simp only [nlO_iff (hLV v hvn).2] at *); (repeat' split) <;> first | rfl | (exfalso; first | contradiction | (simp_all; done) | (simp only [Int32.lt_iff_toInt_lt, Int32.le_iff_toInt_le, ← Int32.toInt_inj] at *; omega)))) rfl
      · refine AR.run g_X5_idle_40_2 58 [some (.ref 16384), some (.int (nI (c))), some (.int (nI (v)))] [.int (nI (3))] _ [] rfl trivial ?_
        exact AR.retI dc_X5_idle_58 rfl (by first | (simp only [idZ, hvo]; done) | (simp only [idZ, hvo]; (try simp only [nlO_iff (hLV v hvn).2] at *); (repeat' split) <;> first | rfl | (exfalso; first | contradiction | (simp_all; done) | (simp only [Int32.lt_iff_toInt_lt, Int32.le_iff_toInt_le, ← Int32.toInt_inj] at *; omega)))) rfl
    · refine AR.run g_X5_idle_23_1 24 [some (.ref 16384), some (.int (nI (c))), some (.int (nI (v)))] [.int (nI (2))] _ [] rfl trivial ?_
      exact AR.retI dc_X5_idle_24 rfl (by first | (simp only [idZ, hvo]; done) | (simp only [idZ, hvo]; (try simp only [nlO_iff (hLV v hvn).2] at *); (repeat' split) <;> first | rfl | (exfalso; first | contradiction | (simp_all; done) | (simp only [Int32.lt_iff_toInt_lt, Int32.le_iff_toInt_le, ← Int32.toInt_inj] at *; omega)))) rfl
/-- why a volume can't be brought -/
def rsZ (z : Nat → Int32) (nv ne v c r : Nat) : Int32 := if 0 < z (11 + 7 * v + 5) then nI 1 else if 0 < z (11 + 7 * v + 6) then nI 2 else if vo z (nI c) nv ≠ none then nI 3 else if z (95 + 4 * c + 0) < z (11 + 7 * v + 1) then nI 4 else if z (95 + 4 * c + 1) < z (11 + 7 * v + 3) then nI 5 else if nlO z v (lv z v) = none then nI 6 else if 0 < z (111 + 4 * r + 1) then nI 7 else if ne = 60 then nI 8 else nI 0
theorem vo_iff {z : Nat → Int32} {c : Int32} {n : Nat} (h : n ≤ 12) : oI (vo z c n) = -1 ↔ vo z c n = none := oI_iff fun q hq => by have := vo_some hq; omega
theorem g_X5_reason_0_3 : ab_oks M_X5_reason [(0, .aload_n 0, 1, 0, 0, 0, .null), (1, .iload_n 1, 1, 1, 0, 0, .null), (2, .iconst 5, 1, 0, 0, 0, .int (nI (5)))] = true := by decide +kernel
theorem dc_X5_reason_3 : decode (AM.bytes M_X5_reason) 3 = .ok (.invokevirtual 62, 3) := by decide +kernel
theorem dc_X5_reason_6 : decode (AM.bytes M_X5_reason) 6 = .ok (.ifCond .le 5, 3) := by decide +kernel
theorem g_X5_reason_11_3 : ab_oks M_X5_reason [(11, .aload_n 0, 1, 0, 0, 0, .null), (12, .iload_n 1, 1, 1, 0, 0, .null), (13, .bipush 6, 2, 0, 0, 0, .int (nI (6)))] = true := by decide +kernel
theorem dc_X5_reason_15 : decode (AM.bytes M_X5_reason) 15 = .ok (.invokevirtual 62, 3) := by decide +kernel
theorem dc_X5_reason_18 : decode (AM.bytes M_X5_reason) 18 = .ok (.ifCond .le 5, 3) := by decide +kernel
theorem g_X5_reason_23_2 : ab_oks M_X5_reason [(23, .aload_n 0, 1, 0, 0, 0, .null), (24, .iload_n 2, 1, 2, 0, 0, .null)] = true := by decide +kernel
theorem dc_X5_reason_25 : decode (AM.bytes M_X5_reason) 25 = .ok (.invokevirtual 69, 3) := by decide +kernel
theorem g_X5_reason_28_1 : ab_oks M_X5_reason [(28, .iconst (-1), 1, 0, 0, 0, .int (-1))] = true := by decide +kernel
theorem dc_X5_reason_29 : decode (AM.bytes M_X5_reason) 29 = .ok (.if_icmp .eq 5, 3) := by decide +kernel
theorem g_X5_reason_34_3 : ab_oks M_X5_reason [(34, .aload_n 0, 1, 0, 0, 0, .null), (35, .iload_n 2, 1, 2, 0, 0, .null), (36, .iconst 0, 1, 0, 0, 0, .int (nI (0)))] = true := by decide +kernel
theorem dc_X5_reason_37 : decode (AM.bytes M_X5_reason) 37 = .ok (.invokevirtual 72, 3) := by decide +kernel
theorem g_X5_reason_40_3 : ab_oks M_X5_reason [(40, .aload_n 0, 1, 0, 0, 0, .null), (41, .iload_n 1, 1, 1, 0, 0, .null), (42, .iconst 1, 1, 0, 0, 0, .int (nI (1)))] = true := by decide +kernel
theorem dc_X5_reason_43 : decode (AM.bytes M_X5_reason) 43 = .ok (.invokevirtual 62, 3) := by decide +kernel
theorem dc_X5_reason_46 : decode (AM.bytes M_X5_reason) 46 = .ok (.if_icmp .ge 5, 3) := by decide +kernel
theorem g_X5_reason_51_3 : ab_oks M_X5_reason [(51, .aload_n 0, 1, 0, 0, 0, .null), (52, .iload_n 1, 1, 1, 0, 0, .null), (53, .iconst 3, 1, 0, 0, 0, .int (nI (3)))] = true := by decide +kernel
theorem dc_X5_reason_54 : decode (AM.bytes M_X5_reason) 54 = .ok (.invokevirtual 62, 3) := by decide +kernel
theorem g_X5_reason_57_3 : ab_oks M_X5_reason [(57, .aload_n 0, 1, 0, 0, 0, .null), (58, .iload_n 2, 1, 2, 0, 0, .null), (59, .iconst 1, 1, 0, 0, 0, .int (nI (1)))] = true := by decide +kernel
theorem dc_X5_reason_60 : decode (AM.bytes M_X5_reason) 60 = .ok (.invokevirtual 72, 3) := by decide +kernel
theorem dc_X5_reason_63 : decode (AM.bytes M_X5_reason) 63 = .ok (.if_icmp .le 5, 3) := by decide +kernel
theorem g_X5_reason_68_2 : ab_oks M_X5_reason [(68, .aload_n 0, 1, 0, 0, 0, .null), (69, .iload_n 1, 1, 1, 0, 0, .null)] = true := by decide +kernel
theorem dc_X5_reason_70 : decode (AM.bytes M_X5_reason) 70 = .ok (.invokevirtual 75, 3) := by decide +kernel
theorem g_X5_reason_73_1 : ab_oks M_X5_reason [(73, .iconst (-1), 1, 0, 0, 0, .int (-1))] = true := by decide +kernel
theorem dc_X5_reason_74 : decode (AM.bytes M_X5_reason) 74 = .ok (.if_icmp .ne 8, 3) := by decide +kernel
theorem g_X5_reason_82_3 : ab_oks M_X5_reason [(82, .aload_n 0, 1, 0, 0, 0, .null), (83, .iload_n 3, 1, 3, 0, 0, .null), (84, .iconst 1, 1, 0, 0, 0, .int (nI (1)))] = true := by decide +kernel
theorem dc_X5_reason_85 : decode (AM.bytes M_X5_reason) 85 = .ok (.invokevirtual 58, 3) := by decide +kernel
theorem dc_X5_reason_88 : decode (AM.bytes M_X5_reason) 88 = .ok (.ifCond .le 8, 3) := by decide +kernel
theorem g_X5_reason_96_1 : ab_oks M_X5_reason [(96, .aload_n 0, 1, 0, 0, 0, .null)] = true := by decide +kernel
theorem lk_5_78 : ab_lkV "LeafCradlesModel" 78 M_X5_isLogFull 0 [1067, 1069, 45, 97, 1070] = true := by decide +kernel
theorem dc_X5_reason_97 : decode (AM.bytes M_X5_reason) 97 = .ok (.invokevirtual 78, 3) := by decide +kernel
theorem dc_X5_reason_100 : decode (AM.bytes M_X5_reason) 100 = .ok (.ifCond .eq 8, 3) := by decide +kernel
theorem g_X5_reason_103_2 : ab_oks M_X5_reason [(103, .bipush 8, 2, 0, 0, 0, .int (nI (8))), (105, .goto 4, 3, 109, 0, 0, .null)] = true := by decide +kernel
theorem dc_X5_reason_109 : decode (AM.bytes M_X5_reason) 109 = .ok (.ireturn, 1) := by decide +kernel
theorem g_X5_reason_108_1 : ab_oks M_X5_reason [(108, .iconst 0, 1, 0, 0, 0, .int (nI (0)))] = true := by decide +kernel
theorem g_X5_reason_91_2 : ab_oks M_X5_reason [(91, .bipush 7, 2, 0, 0, 0, .int (nI (7))), (93, .goto 16, 3, 109, 0, 0, .null)] = true := by decide +kernel
theorem g_X5_reason_77_2 : ab_oks M_X5_reason [(77, .bipush 6, 2, 0, 0, 0, .int (nI (6))), (79, .goto 30, 3, 109, 0, 0, .null)] = true := by decide +kernel
theorem g_X5_reason_66_1 : ab_oks M_X5_reason [(66, .iconst 5, 1, 0, 0, 0, .int (nI (5)))] = true := by decide +kernel
theorem dc_X5_reason_67 : decode (AM.bytes M_X5_reason) 67 = .ok (.ireturn, 1) := by decide +kernel
theorem g_X5_reason_49_1 : ab_oks M_X5_reason [(49, .iconst 4, 1, 0, 0, 0, .int (nI (4)))] = true := by decide +kernel
theorem dc_X5_reason_50 : decode (AM.bytes M_X5_reason) 50 = .ok (.ireturn, 1) := by decide +kernel
theorem g_X5_reason_32_1 : ab_oks M_X5_reason [(32, .iconst 3, 1, 0, 0, 0, .int (nI (3)))] = true := by decide +kernel
theorem dc_X5_reason_33 : decode (AM.bytes M_X5_reason) 33 = .ok (.ireturn, 1) := by decide +kernel
theorem g_X5_reason_21_1 : ab_oks M_X5_reason [(21, .iconst 2, 1, 0, 0, 0, .int (nI (2)))] = true := by decide +kernel
theorem dc_X5_reason_22 : decode (AM.bytes M_X5_reason) 22 = .ok (.ireturn, 1) := by decide +kernel
theorem g_X5_reason_9_1 : ab_oks M_X5_reason [(9, .iconst 1, 1, 0, 0, 0, .int (nI (1)))] = true := by decide +kernel
theorem dc_X5_reason_10 : decode (AM.bytes M_X5_reason) 10 = .ok (.ireturn, 1) := by decide +kernel
set_option maxRecDepth 100000 in
set_option maxHeartbeats 4000000 in
theorem s_reason {E : AE} (d : Nat) (v c r : Nat) {nv ne : Nat} (hv : v < nv) (hc : c < 4) (hr : r < 3) {o0 a0 t0 p0 u0 l0 : List AC} {z sa ro te fr to un ga pi be : Nat → Int32} {bm en sta sv ln th : Int32} {hh : Int64} (hnv : z 0 = nI nv) (h12 : nv ≤ 12) (hLV : LV z nv) (hne : z 5 = nI ne) (h60 : ne ≤ 60) : CT E M_X5_reason (d + 2) [.ref 16384, .int (nI (v)), .int (nI (c)), .int (nI (r))] (hp o0 a0 t0 p0 (mo z sa ro te fr to un ga pi be bm en sta sv ln th hh) u0 l0) (.inl (some (.int (rsZ z nv ne v c r)))) (hp o0 a0 t0 p0 (mo z sa ro te fr to un ga pi be bm en sta sv ln th hh) u0 l0) 0 0 := by
  refine CT.of (L := [some (.ref 16384), some (.int (nI (v))), some (.int (nI (c))), some (.int (nI (r)))]) rfl rfl ?_
  refine AR.run g_X5_reason_0_3 3 [some (.ref 16384), some (.int (nI (v))), some (.int (nI (c))), some (.int (nI (r)))] [.int (nI (5)), .int (nI (v)), .ref 16384] _ [] rfl trivial ?_
  refine AR.callV1 (16384) [.int (nI (v)), .int (nI (5))] [] lk_5_62 dc_X5_reason_3 rfl rfl (s_ofVolume _ v 5 (by omega) (by omega)) (by first | rfl | (simp only [nI_add, pk_mul]; first | done | rfl)) rfl ?_
  refine AR.le (tgt := 11) dc_X5_reason_6 (by decide) (fun c6_1 => ?_) (fun c6_1 => ?_)
  · refine AR.run g_X5_reason_11_3 15 [some (.ref 16384), some (.int (nI (v))), some (.int (nI (c))), some (.int (nI (r)))] [.int (nI (6)), .int (nI (v)), .ref 16384] _ [] rfl trivial ?_
    refine AR.callV1 (16384) [.int (nI (v)), .int (nI (6))] [] lk_5_62 dc_X5_reason_15 rfl rfl (s_ofVolume _ v 6 (by omega) (by omega)) (by first | rfl | (simp only [nI_add, pk_mul]; first | done | rfl)) rfl ?_
    refine AR.le (tgt := 23) dc_X5_reason_18 (by decide) (fun c18_2 => ?_) (fun c18_2 => ?_)
    · refine AR.run g_X5_reason_23_2 25 [some (.ref 16384), some (.int (nI (v))), some (.int (nI (c))), some (.int (nI (r)))] [.int (nI (c)), .ref 16384] _ [] rfl trivial ?_
      refine AR.callV1 (16384) [.int (nI (c))] [] lk_5_69 dc_X5_reason_25 rfl rfl (s_volumeOn _ (nI (c)) hnv h12) (by first | rfl | (simp only [nI_add, pk_mul]; first | done | rfl)) rfl ?_
      refine AR.run g_X5_reason_28_1 29 [some (.ref 16384), some (.int (nI (v))), some (.int (nI (c))), some (.int (nI (r)))] [.int (-1), .int (oI (vo z (nI (c)) nv))] _ [] rfl trivial ?_
      refine AR.eq2 (tgt := 34) dc_X5_reason_29 (by decide) (fun c29_3 => ?_) (fun c29_3 => ?_)
      · refine AR.run g_X5_reason_34_3 37 [some (.ref 16384), some (.int (nI (v))), some (.int (nI (c))), some (.int (nI (r)))] [.int (nI (0)), .int (nI (c)), .ref 16384] _ [] rfl trivial ?_
        refine AR.callV1 (16384) [.int (nI (c)), .int (nI (0))] [] lk_5_72 dc_X5_reason_37 rfl rfl (s_ofCradle _ c 0 (by omega) (by omega)) (by first | rfl | (simp only [nI_add, pk_mul]; first | done | rfl)) rfl ?_
        refine AR.run g_X5_reason_40_3 43 [some (.ref 16384), some (.int (nI (v))), some (.int (nI (c))), some (.int (nI (r)))] [.int (nI (1)), .int (nI (v)), .ref 16384, .int (z (95 + 4 * c + 0))] _ [] rfl trivial ?_
        refine AR.callV1 (16384) [.int (nI (v)), .int (nI (1))] [.int (z (95 + 4 * c + 0))] lk_5_62 dc_X5_reason_43 rfl rfl (s_ofVolume _ v 1 (by omega) (by omega)) (by first | rfl | (simp only [nI_add, pk_mul]; first | done | rfl)) rfl ?_
        refine AR.ge2 (tgt := 51) dc_X5_reason_46 (by decide) (fun c46_4 => ?_) (fun c46_4 => ?_)
        · refine AR.run g_X5_reason_51_3 54 [some (.ref 16384), some (.int (nI (v))), some (.int (nI (c))), some (.int (nI (r)))] [.int (nI (3)), .int (nI (v)), .ref 16384] _ [] rfl trivial ?_
          refine AR.callV1 (16384) [.int (nI (v)), .int (nI (3))] [] lk_5_62 dc_X5_reason_54 rfl rfl (s_ofVolume _ v 3 (by omega) (by omega)) (by first | rfl | (simp only [nI_add, pk_mul]; first | done | rfl)) rfl ?_
          refine AR.run g_X5_reason_57_3 60 [some (.ref 16384), some (.int (nI (v))), some (.int (nI (c))), some (.int (nI (r)))] [.int (nI (1)), .int (nI (c)), .ref 16384, .int (z (11 + 7 * v + 3))] _ [] rfl trivial ?_
          refine AR.callV1 (16384) [.int (nI (c)), .int (nI (1))] [.int (z (11 + 7 * v + 3))] lk_5_72 dc_X5_reason_60 rfl rfl (s_ofCradle _ c 1 (by omega) (by omega)) (by first | rfl | (simp only [nI_add, pk_mul]; first | done | rfl)) rfl ?_
          refine AR.le2 (tgt := 68) dc_X5_reason_63 (by decide) (fun c63_5 => ?_) (fun c63_5 => ?_)
          · refine AR.run g_X5_reason_68_2 70 [some (.ref 16384), some (.int (nI (v))), some (.int (nI (c))), some (.int (nI (r)))] [.int (nI (v)), .ref 16384] _ [] rfl trivial ?_
            refine AR.callV1 (16384) [.int (nI (v))] [] lk_5_75 dc_X5_reason_70 rfl rfl (s_nextLeaf _ v (by omega) (by first | assumption | exact (hLV v (by omega)).1) (by first | assumption | exact (hLV v (by omega)).2)) (by first | rfl | (simp only [nI_add, pk_mul]; first | done | rfl)) rfl ?_
            refine AR.run g_X5_reason_73_1 74 [some (.ref 16384), some (.int (nI (v))), some (.int (nI (c))), some (.int (nI (r)))] [.int (-1), .int (oI (nlO z v (lv z v)))] _ [] rfl trivial ?_
            refine AR.ne2 (tgt := 82) dc_X5_reason_74 (by decide) (fun c74_6 => ?_) (fun c74_6 => ?_)
            · refine AR.run g_X5_reason_82_3 85 [some (.ref 16384), some (.int (nI (v))), some (.int (nI (c))), some (.int (nI (r)))] [.int (nI (1)), .int (nI (r)), .ref 16384] _ [] rfl trivial ?_
              refine AR.callV1 (16384) [.int (nI (r)), .int (nI (1))] [] lk_5_58 dc_X5_reason_85 rfl rfl (s_ofCarrier _ r 1 (by omega) (by omega)) (by first | rfl | (simp only [nI_add, pk_mul]; first | done | rfl)) rfl ?_
              refine AR.le (tgt := 96) dc_X5_reason_88 (by decide) (fun c88_7 => ?_) (fun c88_7 => ?_)
              · refine AR.run g_X5_reason_96_1 97 [some (.ref 16384), some (.int (nI (v))), some (.int (nI (c))), some (.int (nI (r)))] [.ref 16384] _ [] rfl trivial ?_
                refine AR.callV1 (16384) [] [] lk_5_78 dc_X5_reason_97 rfl rfl (s_isLogFull _  hne h60) (by first | rfl | (simp only [nI_add, pk_mul]; first | done | rfl)) rfl ?_
                by_cases hb9 : ne = 60
                · refine AR.cast (L' := [some (.ref 16384), some (.int (nI (v))), some (.int (nI (c))), some (.int (nI (r)))]) (st' := [.int (nI (1))]) rfl (by rw [bi, if_pos hb9]; rfl) rfl ?_
                  refine AR.eqN (tgt := 108) dc_X5_reason_100 (by decide) (by first | rfl | (simp only [nI_add, pk_mul]; first | done | rfl)) (by omega) (fun c100_8 => absurd c100_8 (by omega)) (fun c100_8 => ?_)
                  refine AR.run g_X5_reason_103_2 109 [some (.ref 16384), some (.int (nI (v))), some (.int (nI (c))), some (.int (nI (r)))] [.int (nI (8))] _ [] rfl trivial ?_
                  exact AR.retI dc_X5_reason_109 rfl (by first | (simp only [rsZ]; done) | (simp only [rsZ]; (try simp only [nlO_iff (hLV v hv).2, vo_iff h12] at *); (repeat' split) <;> first | rfl | (exfalso; first | contradiction | (simp_all; done) | (simp only [Int32.lt_iff_toInt_lt, Int32.le_iff_toInt_le, ← Int32.toInt_inj] at *; omega)))) rfl
                · refine AR.cast (L' := [some (.ref 16384), some (.int (nI (v))), some (.int (nI (c))), some (.int (nI (r)))]) (st' := [.int (nI (0))]) rfl (by rw [bi, if_neg hb9]; rfl) rfl ?_
                  refine AR.eqN (tgt := 108) dc_X5_reason_100 (by decide) (by first | rfl | (simp only [nI_add, pk_mul]; first | done | rfl)) (by omega) (fun c100_9 => ?_) (fun c100_9 => absurd c100_9 (by omega))
                  refine AR.run g_X5_reason_108_1 109 [some (.ref 16384), some (.int (nI (v))), some (.int (nI (c))), some (.int (nI (r)))] [.int (nI (0))] _ [] rfl trivial ?_
                  exact AR.retI dc_X5_reason_109 rfl (by first | (simp only [rsZ]; done) | (simp only [rsZ]; (try simp only [nlO_iff (hLV v hv).2, vo_iff h12] at *); (repeat' split) <;> first | rfl | (exfalso; first | contradiction | (simp_all; done) | (simp only [Int32.lt_iff_toInt_lt, Int32.le_iff_toInt_le, ← Int32.toInt_inj] at *; omega)))) rfl
              · refine AR.run g_X5_reason_91_2 109 [some (.ref 16384), some (.int (nI (v))), some (.int (nI (c))), some (.int (nI (r)))] [.int (nI (7))] _ [] rfl trivial ?_
                exact AR.retI dc_X5_reason_109 rfl (by first | (simp only [rsZ]; done) | (simp only [rsZ]; (try simp only [nlO_iff (hLV v hv).2, vo_iff h12] at *); (repeat' split) <;> first | rfl | (exfalso; first | contradiction | (simp_all; done) | (simp only [Int32.lt_iff_toInt_lt, Int32.le_iff_toInt_le, ← Int32.toInt_inj] at *; omega)))) rfl
            · refine AR.run g_X5_reason_77_2 109 [some (.ref 16384), some (.int (nI (v))), some (.int (nI (c))), some (.int (nI (r)))] [.int (nI (6))] _ [] rfl trivial ?_
              exact AR.retI dc_X5_reason_109 rfl (by first | (simp only [rsZ]; done) | (simp only [rsZ]; (try simp only [nlO_iff (hLV v hv).2, vo_iff h12] at *); (repeat' split) <;> first | rfl | (exfalso; first | contradiction | (simp_all; done) | (simp only [Int32.lt_iff_toInt_lt, Int32.le_iff_toInt_le, ← Int32.toInt_inj] at *; omega)))) rfl
          · refine AR.run g_X5_reason_66_1 67 [some (.ref 16384), some (.int (nI (v))), some (.int (nI (c))), some (.int (nI (r)))] [.int (nI (5))] _ [] rfl trivial ?_
            exact AR.retI dc_X5_reason_67 rfl (by first | (simp only [rsZ]; done) | (simp only [rsZ]; (try simp only [nlO_iff (hLV v hv).2, vo_iff h12] at *); (repeat' split) <;> first | rfl | (exfalso; first | contradiction | (simp_all; done) | (simp only [Int32.lt_iff_toInt_lt, Int32.le_iff_toInt_le, ← Int32.toInt_inj] at *; omega)))) rfl
        · refine AR.run g_X5_reason_49_1 50 [some (.ref 16384), some (.int (nI (v))), some (.int (nI (c))), some (.int (nI (r)))] [.int (nI (4))] _ [] rfl trivial ?_
          exact AR.retI dc_X5_reason_50 rfl (by first | (simp only [rsZ]; done) | (simp only [rsZ]; (try simp only [nlO_iff (hLV v hv).2, vo_iff h12] at *); (repeat' split) <;> first | rfl | (exfalso; first | contradiction | (simp_all; done) | (simp only [Int32.lt_iff_toInt_lt, Int32.le_iff_toInt_le, ← Int32.toInt_inj] at *; omega)))) rfl
      · refine AR.run g_X5_reason_32_1 33 [some (.ref 16384), some (.int (nI (v))), some (.int (nI (c))), some (.int (nI (r)))] [.int (nI (3))] _ [] rfl trivial ?_
        exact AR.retI dc_X5_reason_33 rfl (by first | (simp only [rsZ]; done) | (simp only [rsZ]; (try simp only [nlO_iff (hLV v hv).2, vo_iff h12] at *); (repeat' split) <;> first | rfl | (exfalso; first | contradiction | (simp_all; done) | (simp only [Int32.lt_iff_toInt_lt, Int32.le_iff_toInt_le, ← Int32.toInt_inj] at *; omega)))) rfl
    · refine AR.run g_X5_reason_21_1 22 [some (.ref 16384), some (.int (nI (v))), some (.int (nI (c))), some (.int (nI (r)))] [.int (nI (2))] _ [] rfl trivial ?_
      exact AR.retI dc_X5_reason_22 rfl (by first | (simp only [rsZ]; done) | (simp only [rsZ]; (try simp only [nlO_iff (hLV v hv).2, vo_iff h12] at *); (repeat' split) <;> first | rfl | (exfalso; first | contradiction | (simp_all; done) | (simp only [Int32.lt_iff_toInt_lt, Int32.le_iff_toInt_le, ← Int32.toInt_inj] at *; omega)))) rfl
  · refine AR.run g_X5_reason_9_1 10 [some (.ref 16384), some (.int (nI (v))), some (.int (nI (c))), some (.int (nI (r)))] [.int (nI (1))] _ [] rfl trivial ?_
    exact AR.retI dc_X5_reason_10 rfl (by first | (simp only [rsZ]; done) | (simp only [rsZ]; (try simp only [nlO_iff (hLV v hv).2, vo_iff h12] at *); (repeat' split) <;> first | rfl | (exfalso; first | contradiction | (simp_all; done) | (simp only [Int32.lt_iff_toInt_lt, Int32.le_iff_toInt_le, ← Int32.toInt_inj] at *; omega)))) rfl
/-- the first k places of g are those of f -/
def cpK (f g : Nat → Int32) (n : Nat) : Nat → Int32 := fun i => if i < n then f i else g i
theorem cpK_0 (f g : Nat → Int32) : cpK f g 0 = g := by funext i; simp [cpK]
theorem cpK_s (f g : Nat → Int32) (n : Nat) : upd (cpK f g n) n (f n) = cpK f g (n + 1) := by
  funext i
  unfold upd cpK
  by_cases h : i = n
  · subst h; simp
  · by_cases h2 : i < n
    · simp [h, h2, Nat.lt_succ_of_lt h2]
    · have : ¬ i < n + 1 := by omega
      simp [h, h2, this]
theorem g_X5_keep_0_2 : ab_oks M_X5_keep [(0, .iconst 0, 1, 0, 0, 0, .int (nI (0))), (1, .istore_n 1, 1, 1, 0, 0, .null)] = true := by decide +kernel
theorem g_X5_keep_2_2 : ab_oks M_X5_keep [(2, .iload_n 1, 1, 1, 0, 0, .null), (3, .sipush 1863, 3, 0, 0, 0, .int (nI (1863)))] = true := by decide +kernel
theorem dc_X5_keep_6 : decode (AM.bytes M_X5_keep) 6 = .ok (.if_icmp .ge 21, 3) := by decide +kernel
theorem g_X5_keep_9_6 : ab_oks M_X5_keep [(9, .aload_n 0, 1, 0, 0, 0, .null), (10, .getfield 13, 3, 5, 1, 937, .null), (13, .iload_n 1, 1, 1, 0, 0, .null), (14, .aload_n 0, 1, 0, 0, 0, .null), (15, .getfield 7, 3, 5, 0, 936, .null), (18, .iload_n 1, 1, 1, 0, 0, .null)] = true := by decide +kernel
theorem ok_X5_keep_19 : ab_ok M_X5_keep (19, .iaload, 1, 0, 0, 0, .null) = true := by decide +kernel
theorem ok_X5_keep_20 : ab_ok M_X5_keep (20, .iastore, 1, 0, 0, 0, .null) = true := by decide +kernel
theorem g_X5_keep_21_2 : ab_oks M_X5_keep [(21, .iinc 1 1, 3, 1, 0, 0, .int (nI (1))), (24, .goto (-22), 3, 2, 0, 0, .null)] = true := by decide +kernel
theorem dc_X5_keep_27 : decode (AM.bytes M_X5_keep) 27 = .ok (.return_, 1) := by decide +kernel
set_option maxRecDepth 100000 in
set_option maxHeartbeats 4000000 in
theorem s_keep {E : AE} (d : Nat) {o0 a0 t0 p0 u0 l0 : List AC} {z sa ro te fr to un ga pi be : Nat → Int32} {bm en sta sv ln th : Int32} {hh : Int64} : CT E M_X5_keep d [.ref 16384] (hp o0 a0 t0 p0 (mo z sa ro te fr to un ga pi be bm en sta sv ln th hh) u0 l0) (.inl none) (hp o0 a0 t0 p0 (mo z (cpK z sa 1863) ro te fr to un ga pi be bm en sta sv ln th hh) u0 l0) 0 0 := by
  refine CT.of (L := [some (.ref 16384), none]) rfl rfl ?_
  refine AR.run g_X5_keep_0_2 2 [some (.ref 16384), some (.int (nI (0)))] [] _ [] rfl trivial ?_
  refine AR.cast (L' := [some (.ref 16384), some (.int (nI (0)))]) (by first | rfl | (rw [cpK_0])) rfl (by first | rfl | (rw [cpK_0])) (AR.loopN 1863 (fun j1 => [some (.ref 16384), some (.int (nI (j1)))]) (fun j1 => (hp o0 a0 t0 p0 (mo z (cpK z sa j1) ro te fr to un ga pi be bm en sta sv ln th hh) u0 l0)) (fun j1 => True) (fun j1 hj2 hI2 ih2 => ?_) (fun hI2 => ?_) 0 (by omega) trivial)
  · refine AR.run g_X5_keep_2_2 6 [some (.ref 16384), some (.int (nI (j1)))] [.int (nI (1863)), .int (nI (j1))] _ [] rfl trivial ?_
    refine AR.ge2N (tgt := 27) dc_X5_keep_6 (by decide) (by first | rfl | (simp only [nI_add, pk_mul]; first | done | rfl)) (by first | rfl | (simp only [nI_add, pk_mul]; first | done | rfl)) (by omega) (by omega) (fun c6_2 => absurd c6_2 (by omega)) (fun c6_2 => ?_)
    refine AR.run g_X5_keep_9_6 19 [some (.ref 16384), some (.int (nI (j1)))] [.int (nI (j1)), .ref 16385, .int (nI (j1)), .ref 16386] _ [] rfl trivial ?_
    refine AR.ald (n := 0) (e := j1) ok_X5_keep_19 (by first | rfl | (simp only [nI_add, pk_mul]; first | done | rfl)) rfl (by omega) (by first | decide | omega) ?_
    refine AR.ast (n := 0) (e := j1) (h1 := (hp o0 a0 t0 p0 (mo z (upd (cpK z sa j1) j1 (z j1)) ro te fr to un ga pi be bm en sta sv ln th hh) u0 l0)) ok_X5_keep_20 (by first | rfl | (simp only [nI_add, pk_mul]; first | done | rfl)) rfl rfl (by omega) (by decide) rfl ?_
    refine AR.run g_X5_keep_21_2 2 [some (.ref 16384), some (.int ((nI (j1)) + (nI (1))))] [] _ [] rfl trivial ?_
    exact AR.cast (L' := [some (.ref 16384), some (.int (nI ((j1 + 1))))]) (by first | rfl | (simp only [nI_add])) rfl (by rw [cpK_s]) (ih2 trivial)
  · refine AR.run g_X5_keep_2_2 6 [some (.ref 16384), some (.int (nI (1863)))] [.int (nI (1863)), .int (nI (1863))] _ [] rfl trivial ?_
    refine AR.ge2N (tgt := 27) dc_X5_keep_6 (by decide) (by first | rfl | (simp only [nI_add, pk_mul]; first | done | rfl)) (by first | rfl | (simp only [nI_add, pk_mul]; first | done | rfl)) (by omega) (by omega) (fun c6_3 => ?_) (fun c6_3 => absurd c6_3 (by omega))
    exact AR.retV dc_X5_keep_27 rfl rfl
theorem g_X5_bring0_0_2 : ab_oks M_X5_bring0 [(0, .iconst 0, 1, 0, 0, 0, .int (nI (0))), (1, .istore_n 1, 1, 1, 0, 0, .null)] = true := by decide +kernel
theorem g_X5_bring0_2_2 : ab_oks M_X5_bring0 [(2, .iload_n 1, 1, 1, 0, 0, .null), (3, .sipush 1863, 3, 0, 0, 0, .int (nI (1863)))] = true := by decide +kernel
theorem dc_X5_bring0_6 : decode (AM.bytes M_X5_bring0) 6 = .ok (.if_icmp .ge 21, 3) := by decide +kernel
theorem g_X5_bring0_9_6 : ab_oks M_X5_bring0 [(9, .aload_n 0, 1, 0, 0, 0, .null), (10, .getfield 7, 3, 5, 0, 936, .null), (13, .iload_n 1, 1, 1, 0, 0, .null), (14, .aload_n 0, 1, 0, 0, 0, .null), (15, .getfield 13, 3, 5, 1, 937, .null), (18, .iload_n 1, 1, 1, 0, 0, .null)] = true := by decide +kernel
theorem ok_X5_bring0_19 : ab_ok M_X5_bring0 (19, .iaload, 1, 0, 0, 0, .null) = true := by decide +kernel
theorem ok_X5_bring0_20 : ab_ok M_X5_bring0 (20, .iastore, 1, 0, 0, 0, .null) = true := by decide +kernel
theorem g_X5_bring0_21_2 : ab_oks M_X5_bring0 [(21, .iinc 1 1, 3, 1, 0, 0, .int (nI (1))), (24, .goto (-22), 3, 2, 0, 0, .null)] = true := by decide +kernel
theorem dc_X5_bring0_27 : decode (AM.bytes M_X5_bring0) 27 = .ok (.return_, 1) := by decide +kernel
set_option maxRecDepth 100000 in
set_option maxHeartbeats 4000000 in
theorem s_bring0 {E : AE} (d : Nat) {o0 a0 t0 p0 u0 l0 : List AC} {z sa ro te fr to un ga pi be : Nat → Int32} {bm en sta sv ln th : Int32} {hh : Int64} : CT E M_X5_bring0 d [.ref 16384] (hp o0 a0 t0 p0 (mo z sa ro te fr to un ga pi be bm en sta sv ln th hh) u0 l0) (.inl none) (hp o0 a0 t0 p0 (mo (cpK sa z 1863) sa ro te fr to un ga pi be bm en sta sv ln th hh) u0 l0) 0 0 := by
  refine CT.of (L := [some (.ref 16384), none]) rfl rfl ?_
  refine AR.run g_X5_bring0_0_2 2 [some (.ref 16384), some (.int (nI (0)))] [] _ [] rfl trivial ?_
  refine AR.cast (L' := [some (.ref 16384), some (.int (nI (0)))]) (by first | rfl | (rw [cpK_0])) rfl (by first | rfl | (rw [cpK_0])) (AR.loopN 1863 (fun j1 => [some (.ref 16384), some (.int (nI (j1)))]) (fun j1 => (hp o0 a0 t0 p0 (mo (cpK sa z j1) sa ro te fr to un ga pi be bm en sta sv ln th hh) u0 l0)) (fun j1 => True) (fun j1 hj2 hI2 ih2 => ?_) (fun hI2 => ?_) 0 (by omega) trivial)
  · refine AR.run g_X5_bring0_2_2 6 [some (.ref 16384), some (.int (nI (j1)))] [.int (nI (1863)), .int (nI (j1))] _ [] rfl trivial ?_
    refine AR.ge2N (tgt := 27) dc_X5_bring0_6 (by decide) (by first | rfl | (simp only [nI_add, pk_mul]; first | done | rfl)) (by first | rfl | (simp only [nI_add, pk_mul]; first | done | rfl)) (by omega) (by omega) (fun c6_2 => absurd c6_2 (by omega)) (fun c6_2 => ?_)
    refine AR.run g_X5_bring0_9_6 19 [some (.ref 16384), some (.int (nI (j1)))] [.int (nI (j1)), .ref 16386, .int (nI (j1)), .ref 16385] _ [] rfl trivial ?_
    refine AR.ald (n := 0) (e := j1) ok_X5_bring0_19 (by first | rfl | (simp only [nI_add, pk_mul]; first | done | rfl)) rfl (by omega) (by first | decide | omega) ?_
    refine AR.ast (n := 0) (e := j1) (h1 := (hp o0 a0 t0 p0 (mo (upd (cpK sa z j1) j1 (sa j1)) sa ro te fr to un ga pi be bm en sta sv ln th hh) u0 l0)) ok_X5_bring0_20 (by first | rfl | (simp only [nI_add, pk_mul]; first | done | rfl)) rfl rfl (by omega) (by decide) rfl ?_
    refine AR.run g_X5_bring0_21_2 2 [some (.ref 16384), some (.int ((nI (j1)) + (nI (1))))] [] _ [] rfl trivial ?_
    exact AR.cast (L' := [some (.ref 16384), some (.int (nI ((j1 + 1))))]) (by first | rfl | (simp only [nI_add])) rfl (by rw [cpK_s]) (ih2 trivial)
  · refine AR.run g_X5_bring0_2_2 6 [some (.ref 16384), some (.int (nI (1863)))] [.int (nI (1863)), .int (nI (1863))] _ [] rfl trivial ?_
    refine AR.ge2N (tgt := 27) dc_X5_bring0_6 (by decide) (by first | rfl | (simp only [nI_add, pk_mul]; first | done | rfl)) (by first | rfl | (simp only [nI_add, pk_mul]; first | done | rfl)) (by omega) (by omega) (fun c6_3 => ?_) (fun c6_3 => absurd c6_3 (by omega))
    exact AR.retV dc_X5_bring0_27 rfl rfl
