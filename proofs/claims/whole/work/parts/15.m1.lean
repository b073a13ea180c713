/-- 1 where v lies from a to b, else 0 -/
def wi (v a b : Int32) : Int32 := if a ≤ v ∧ v ≤ b then 1 else 0
theorem wi01 (v a b : Int32) : wi v a b = 0 ∨ wi v a b = 1 := by unfold wi; split; exact Or.inr rfl; exact Or.inl rfl
def bi (p : Prop) [Decidable p] : Int32 := if p then 1 else 0
theorem bi01 (p : Prop) [Decidable p] : bi p = 0 ∨ bi p = 1 := by unfold bi; split; exact Or.inr rfl; exact Or.inl rfl
theorem g_X5_thrown_0_2 : ab_oks M_X5_thrown [(0, .aload_n 0, 1, 0, 0, 0, .null), (1, .getfield 40, 3, 5, 15, 945, .null)] = true := by decide +kernel
theorem dc_X5_thrown_4 : decode (AM.bytes M_X5_thrown) 4 = .ok (.ireturn, 1) := by decide +kernel
set_option maxRecDepth 100000 in
set_option maxHeartbeats 4000000 in
theorem s_thrown {E : AE} (d : Nat) {o0 a0 t0 p0 u0 l0 : List AC} {z sa ro te fr to un ga pi be : Nat → Int32} {bm en sta sv ln th : Int32} {hh : Int64} : CT E M_X5_thrown d [.ref 16384] (hp o0 a0 t0 p0 (mo z sa ro te fr to un ga pi be bm en sta sv ln th hh) u0 l0) (.inl (some (.int (th)))) (hp o0 a0 t0 p0 (mo z sa ro te fr to un ga pi be bm en sta sv ln th hh) u0 l0) 0 0 := by
  refine CT.of (L := [some (.ref 16384)]) rfl rfl ?_
  refine AR.run g_X5_thrown_0_2 4 [some (.ref 16384)] [.int (th)] _ [] rfl trivial ?_
  exact AR.retI dc_X5_thrown_4 rfl (by first | rfl | (simp only [nI_add, pk_mul]; first | done | rfl)) rfl
theorem g_X5_fails_0_4 : ab_oks M_X5_fails [(0, .aload_n 0, 1, 0, 0, 0, .null), (1, .iload_n 1, 1, 1, 0, 0, .null), (2, .putfield 40, 3, 5, 15, 945, .null), (5, .iconst 0, 1, 0, 0, 0, .int (nI (0)))] = true := by decide +kernel
theorem dc_X5_fails_6 : decode (AM.bytes M_X5_fails) 6 = .ok (.ireturn, 1) := by decide +kernel
set_option maxRecDepth 100000 in
set_option maxHeartbeats 4000000 in
theorem s_fails {E : AE} (d : Nat) (by_ : Int32) {o0 a0 t0 p0 u0 l0 : List AC} {z sa ro te fr to un ga pi be : Nat → Int32} {bm en sta sv ln th : Int32} {hh : Int64} : CT E M_X5_fails d [.ref 16384, .int (by_)] (hp o0 a0 t0 p0 (mo z sa ro te fr to un ga pi be bm en sta sv ln th hh) u0 l0) (.inl (some (.int (nI (0))))) (hp o0 a0 t0 p0 (mo z sa ro te fr to un ga pi be bm en sta sv ln by_ hh) u0 l0) 0 0 := by
  refine CT.of (L := [some (.ref 16384), some (.int (by_))]) rfl rfl ?_
  refine AR.run g_X5_fails_0_4 6 [some (.ref 16384), some (.int (by_))] [.int (nI (0))] (hp o0 a0 t0 p0 (mo z sa ro te fr to un ga pi be bm en sta sv ln by_ hh) u0 l0) [] rfl trivial ?_
  exact AR.retI dc_X5_fails_6 rfl (by first | rfl | (simp only [nI_add, pk_mul]; first | done | rfl)) rfl
theorem g_X5_within_0_2 : ab_oks M_X5_within [(0, .iload_n 0, 1, 0, 0, 0, .null), (1, .iload_n 1, 1, 1, 0, 0, .null)] = true := by decide +kernel
theorem dc_X5_within_2 : decode (AM.bytes M_X5_within) 2 = .ok (.if_icmp .lt 12, 3) := by decide +kernel
theorem g_X5_within_14_1 : ab_oks M_X5_within [(14, .iconst 0, 1, 0, 0, 0, .int (nI (0)))] = true := by decide +kernel
theorem dc_X5_within_15 : decode (AM.bytes M_X5_within) 15 = .ok (.ireturn, 1) := by decide +kernel
theorem g_X5_within_5_2 : ab_oks M_X5_within [(5, .iload_n 0, 1, 0, 0, 0, .null), (6, .iload_n 2, 1, 2, 0, 0, .null)] = true := by decide +kernel
theorem dc_X5_within_7 : decode (AM.bytes M_X5_within) 7 = .ok (.if_icmp .gt 7, 3) := by decide +kernel
theorem g_X5_within_10_2 : ab_oks M_X5_within [(10, .iconst 1, 1, 0, 0, 0, .int (nI (1))), (11, .goto 4, 3, 15, 0, 0, .null)] = true := by decide +kernel
set_option maxRecDepth 100000 in
set_option maxHeartbeats 4000000 in
theorem s_within {E : AE} (d : Nat) (v a b : Int32) {h : AH} : CT E M_X5_within d [.int (v), .int (a), .int (b)] h (.inl (some (.int (wi v a b)))) h 0 0 := by
  refine CT.of (L := [some (.int (v)), some (.int (a)), some (.int (b))]) rfl rfl ?_
  refine AR.run g_X5_within_0_2 2 [some (.int (v)), some (.int (a)), some (.int (b))] [.int (a), .int (v)] _ [] rfl trivial ?_
  refine AR.lt2 (tgt := 14) dc_X5_within_2 (by decide) (fun c2_1 => ?_) (fun c2_1 => ?_)
  · refine AR.run g_X5_within_14_1 15 [some (.int (v)), some (.int (a)), some (.int (b))] [.int (nI (0))] _ [] rfl trivial ?_
    exact AR.retZ dc_X5_within_15 rfl (Or.inl rfl) (by simp only [wi, bi]; first | (rw [if_pos (by simp only [Int32.lt_iff_toInt_lt, Int32.le_iff_toInt_le, ← Int32.toInt_inj] at *; omega)]; rfl) | (rw [if_neg (by simp only [Int32.lt_iff_toInt_lt, Int32.le_iff_toInt_le, ← Int32.toInt_inj] at *; omega)]; rfl)) rfl
  · refine AR.run g_X5_within_5_2 7 [some (.int (v)), some (.int (a)), some (.int (b))] [.int (b), .int (v)] _ [] rfl trivial ?_
    refine AR.gt2 (tgt := 14) dc_X5_within_7 (by decide) (fun c7_2 => ?_) (fun c7_2 => ?_)
    · refine AR.run g_X5_within_14_1 15 [some (.int (v)), some (.int (a)), some (.int (b))] [.int (nI (0))] _ [] rfl trivial ?_
      exact AR.retZ dc_X5_within_15 rfl (Or.inl rfl) (by simp only [wi, bi]; first | (rw [if_pos (by simp only [Int32.lt_iff_toInt_lt, Int32.le_iff_toInt_le, ← Int32.toInt_inj] at *; omega)]; rfl) | (rw [if_neg (by simp only [Int32.lt_iff_toInt_lt, Int32.le_iff_toInt_le, ← Int32.toInt_inj] at *; omega)]; rfl)) rfl
    · refine AR.run g_X5_within_10_2 15 [some (.int (v)), some (.int (a)), some (.int (b))] [.int (nI (1))] _ [] rfl trivial ?_
      exact AR.retZ dc_X5_within_15 rfl (Or.inr rfl) (by simp only [wi, bi]; first | (rw [if_pos (by simp only [Int32.lt_iff_toInt_lt, Int32.le_iff_toInt_le, ← Int32.toInt_inj] at *; omega)]; rfl) | (rw [if_neg (by simp only [Int32.lt_iff_toInt_lt, Int32.le_iff_toInt_le, ← Int32.toInt_inj] at *; omega)]; rfl)) rfl
theorem g_X5_ofVolume_0_9 : ab_oks M_X5_ofVolume [(0, .aload_n 0, 1, 0, 0, 0, .null), (1, .getfield 7, 3, 5, 0, 930, .null), (4, .bipush 11, 2, 0, 0, 0, .int (nI (11))), (6, .bipush 7, 2, 0, 0, 0, .int (nI (7))), (8, .iload_n 1, 1, 1, 0, 0, .null), (9, .imul, 1, 0, 0, 0, .null), (10, .iadd, 1, 0, 0, 0, .null), (11, .iload_n 2, 1, 2, 0, 0, .null), (12, .iadd, 1, 0, 0, 0, .null)] = true := by decide +kernel
theorem ok_X5_ofVolume_13 : ab_ok M_X5_ofVolume (13, .iaload, 1, 0, 0, 0, .null) = true := by decide +kernel
theorem dc_X5_ofVolume_14 : decode (AM.bytes M_X5_ofVolume) 14 = .ok (.ireturn, 1) := by decide +kernel
set_option maxRecDepth 100000 in
set_option maxHeartbeats 4000000 in
theorem s_ofVolume {E : AE} (d : Nat) (v w : Nat) (h1 : v < 12) (h2 : w < 7) {o0 a0 t0 p0 u0 l0 : List AC} {z sa ro te fr to un ga pi be : Nat → Int32} {bm en sta sv ln th : Int32} {hh : Int64} : CT E M_X5_ofVolume d [.ref 16384, .int (nI (v)), .int (nI (w))] (hp o0 a0 t0 p0 (mo z sa ro te fr to un ga pi be bm en sta sv ln th hh) u0 l0) (.inl (some (.int (z (11 + 7 * v + w))))) (hp o0 a0 t0 p0 (mo z sa ro te fr to un ga pi be bm en sta sv ln th hh) u0 l0) 0 0 := by
  refine CT.of (L := [some (.ref 16384), some (.int (nI (v))), some (.int (nI (w)))]) rfl rfl ?_
  refine AR.run g_X5_ofVolume_0_9 13 [some (.ref 16384), some (.int (nI (v))), some (.int (nI (w)))] [.int (((nI (11)) + ((nI (7)) * (nI (v)))) + (nI (w))), .ref 16385] _ [] rfl trivial ?_
  refine AR.ald (n := 0) (e := ((11 + (7 * v)) + w)) ok_X5_ofVolume_13 (by first | rfl | (simp only [nI_add, pk_mul]; first | done | rfl)) rfl (by omega) (by first | decide | omega) ?_
  exact AR.retI dc_X5_ofVolume_14 rfl (by first | rfl | (simp only [nI_add, pk_mul]; first | done | rfl)) rfl
theorem g_X5_ofCradle_0_9 : ab_oks M_X5_ofCradle [(0, .aload_n 0, 1, 0, 0, 0, .null), (1, .getfield 7, 3, 5, 0, 930, .null), (4, .bipush 95, 2, 0, 0, 0, .int (nI (95))), (6, .iconst 4, 1, 0, 0, 0, .int (nI (4))), (7, .iload_n 1, 1, 1, 0, 0, .null), (8, .imul, 1, 0, 0, 0, .null), (9, .iadd, 1, 0, 0, 0, .null), (10, .iload_n 2, 1, 2, 0, 0, .null), (11, .iadd, 1, 0, 0, 0, .null)] = true := by decide +kernel
theorem ok_X5_ofCradle_12 : ab_ok M_X5_ofCradle (12, .iaload, 1, 0, 0, 0, .null) = true := by decide +kernel
theorem dc_X5_ofCradle_13 : decode (AM.bytes M_X5_ofCradle) 13 = .ok (.ireturn, 1) := by decide +kernel
set_option maxRecDepth 100000 in
set_option maxHeartbeats 4000000 in
theorem s_ofCradle {E : AE} (d : Nat) (v w : Nat) (h1 : v < 4) (h2 : w < 4) {o0 a0 t0 p0 u0 l0 : List AC} {z sa ro te fr to un ga pi be : Nat → Int32} {bm en sta sv ln th : Int32} {hh : Int64} : CT E M_X5_ofCradle d [.ref 16384, .int (nI (v)), .int (nI (w))] (hp o0 a0 t0 p0 (mo z sa ro te fr to un ga pi be bm en sta sv ln th hh) u0 l0) (.inl (some (.int (z (95 + 4 * v + w))))) (hp o0 a0 t0 p0 (mo z sa ro te fr to un ga pi be bm en sta sv ln th hh) u0 l0) 0 0 := by
  refine CT.of (L := [some (.ref 16384), some (.int (nI (v))), some (.int (nI (w)))]) rfl rfl ?_
  refine AR.run g_X5_ofCradle_0_9 12 [some (.ref 16384), some (.int (nI (v))), some (.int (nI (w)))] [.int (((nI (95)) + ((nI (4)) * (nI (v)))) + (nI (w))), .ref 16385] _ [] rfl trivial ?_
  refine AR.ald (n := 0) (e := ((95 + (4 * v)) + w)) ok_X5_ofCradle_12 (by first | rfl | (simp only [nI_add, pk_mul]; first | done | rfl)) rfl (by omega) (by first | decide | omega) ?_
  exact AR.retI dc_X5_ofCradle_13 rfl (by first | rfl | (simp only [nI_add, pk_mul]; first | done | rfl)) rfl
theorem g_X5_ofCarrier_0_9 : ab_oks M_X5_ofCarrier [(0, .aload_n 0, 1, 0, 0, 0, .null), (1, .getfield 7, 3, 5, 0, 930, .null), (4, .bipush 111, 2, 0, 0, 0, .int (nI (111))), (6, .iconst 4, 1, 0, 0, 0, .int (nI (4))), (7, .iload_n 1, 1, 1, 0, 0, .null), (8, .imul, 1, 0, 0, 0, .null), (9, .iadd, 1, 0, 0, 0, .null), (10, .iload_n 2, 1, 2, 0, 0, .null), (11, .iadd, 1, 0, 0, 0, .null)] = true := by decide +kernel
theorem ok_X5_ofCarrier_12 : ab_ok M_X5_ofCarrier (12, .iaload, 1, 0, 0, 0, .null) = true := by decide +kernel
theorem dc_X5_ofCarrier_13 : decode (AM.bytes M_X5_ofCarrier) 13 = .ok (.ireturn, 1) := by decide +kernel
set_option maxRecDepth 100000 in
set_option maxHeartbeats 4000000 in
theorem s_ofCarrier {E : AE} (d : Nat) (v w : Nat) (h1 : v < 3) (h2 : w < 4) {o0 a0 t0 p0 u0 l0 : List AC} {z sa ro te fr to un ga pi be : Nat → Int32} {bm en sta sv ln th : Int32} {hh : Int64} : CT E M_X5_ofCarrier d [.ref 16384, .int (nI (v)), .int (nI (w))] (hp o0 a0 t0 p0 (mo z sa ro te fr to un ga pi be bm en sta sv ln th hh) u0 l0) (.inl (some (.int (z (111 + 4 * v + w))))) (hp o0 a0 t0 p0 (mo z sa ro te fr to un ga pi be bm en sta sv ln th hh) u0 l0) 0 0 := by
  refine CT.of (L := [some (.ref 16384), some (.int (nI (v))), some (.int (nI (w)))]) rfl rfl ?_
  refine AR.run g_X5_ofCarrier_0_9 12 [some (.ref 16384), some (.int (nI (v))), some (.int (nI (w)))] [.int (((nI (111)) + ((nI (4)) * (nI (v)))) + (nI (w))), .ref 16385] _ [] rfl trivial ?_
  refine AR.ald (n := 0) (e := ((111 + (4 * v)) + w)) ok_X5_ofCarrier_12 (by first | rfl | (simp only [nI_add, pk_mul]; first | done | rfl)) rfl (by omega) (by first | decide | omega) ?_
  exact AR.retI dc_X5_ofCarrier_13 rfl (by first | rfl | (simp only [nI_add, pk_mul]; first | done | rfl)) rfl
theorem g_X5_ofLeaf_0_13 : ab_oks M_X5_ofLeaf [(0, .aload_n 0, 1, 0, 0, 0, .null), (1, .getfield 7, 3, 5, 0, 930, .null), (4, .sipush 423, 3, 0, 0, 0, .int (nI (423))), (7, .iconst 3, 1, 0, 0, 0, .int (nI (3))), (8, .bipush 40, 2, 0, 0, 0, .int (nI (40))), (10, .iload_n 1, 1, 1, 0, 0, .null), (11, .imul, 1, 0, 0, 0, .null), (12, .iload_n 2, 1, 2, 0, 0, .null), (13, .iadd, 1, 0, 0, 0, .null), (14, .imul, 1, 0, 0, 0, .null), (15, .iadd, 1, 0, 0, 0, .null), (16, .iload_n 3, 1, 3, 0, 0, .null), (17, .iadd, 1, 0, 0, 0, .null)] = true := by decide +kernel
theorem ok_X5_ofLeaf_18 : ab_ok M_X5_ofLeaf (18, .iaload, 1, 0, 0, 0, .null) = true := by decide +kernel
theorem dc_X5_ofLeaf_19 : decode (AM.bytes M_X5_ofLeaf) 19 = .ok (.ireturn, 1) := by decide +kernel
set_option maxRecDepth 100000 in
set_option maxHeartbeats 4000000 in
theorem s_ofLeaf {E : AE} (d : Nat) (v k w : Nat) (h1 : v < 12) (h2 : k < 40) (h3 : w < 3) {o0 a0 t0 p0 u0 l0 : List AC} {z sa ro te fr to un ga pi be : Nat → Int32} {bm en sta sv ln th : Int32} {hh : Int64} : CT E M_X5_ofLeaf d [.ref 16384, .int (nI (v)), .int (nI (k)), .int (nI (w))] (hp o0 a0 t0 p0 (mo z sa ro te fr to un ga pi be bm en sta sv ln th hh) u0 l0) (.inl (some (.int (z (423 + 3 * (40 * v + k) + w))))) (hp o0 a0 t0 p0 (mo z sa ro te fr to un ga pi be bm en sta sv ln th hh) u0 l0) 0 0 := by
  refine CT.of (L := [some (.ref 16384), some (.int (nI (v))), some (.int (nI (k))), some (.int (nI (w)))]) rfl rfl ?_
  refine AR.run g_X5_ofLeaf_0_13 18 [some (.ref 16384), some (.int (nI (v))), some (.int (nI (k))), some (.int (nI (w)))] [.int (((nI (423)) + ((nI (3)) * (((nI (40)) * (nI (v))) + (nI (k))))) + (nI (w))), .ref 16385] _ [] rfl trivial ?_
  refine AR.ald (n := 0) (e := ((423 + (3 * ((40 * v) + k))) + w)) ok_X5_ofLeaf_18 (by first | rfl | (simp only [nI_add, pk_mul]; first | done | rfl)) rfl (by omega) (by first | decide | omega) ?_
  exact AR.retI dc_X5_ofLeaf_19 rfl (by first | rfl | (simp only [nI_add, pk_mul]; first | done | rfl)) rfl
