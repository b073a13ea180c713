theorem ZI_scans {z : Nat → Int32} {nv nc nr ne c v k : Nat} (hc : c < 4) (hv : v < 12) (hk : k < 40) (hZ : ZI z nv nc nr ne) : ZI (F_5scans_z c v k z) nv nc nr ne := by
  have p1 : plc ((95 + (4 * c)) + 2) := ⟨by omega, by omega, by omega, by omega, fun v9 hv9 => by omega⟩
  have p2 : plc ((95 + (4 * c)) + 3) := ⟨by omega, by omega, by omega, by omega, fun v9 hv9 => by omega⟩
  have p3 : plc (423 + (3 * ((40 * v) + k))) := ⟨by omega, by omega, by omega, by omega, fun v9 hv9 => by omega⟩
  have p4 : plc ((423 + (3 * ((40 * v) + k))) + 1) := ⟨by omega, by omega, by omega, by omega, fun v9 hv9 => by omega⟩
  have p5 : plc ((11 + (7 * v)) + 4) := ⟨by omega, by omega, by omega, by omega, fun v9 hv9 => by omega⟩
  have p6 : plc ((11 + (7 * v)) + 3) := ⟨by omega, by omega, by omega, by omega, fun v9 hv9 => by omega⟩
  unfold F_5scans_z
  (repeat' split) <;> repeat (first | exact hZ | exact ZI_upd p1 hZ | refine ZI_upd p1 ?_ | refine ZI_upd p2 ?_ | refine ZI_upd p3 ?_ | refine ZI_upd p4 ?_ | refine ZI_upd p5 ?_ | refine ZI_upd p6 ?_)
def B_5minute_4 (nv : Nat) (j4 : Nat) (x4_1 : Int32) (y4_z : Nat → Int32) : (Int32) × (Nat → Int32) := if (idZ y4_z nv j4) = 0 then (x4_1 + (F_5scans j4 (voG y4_z (nI j4) nv) y4_z), F_5scans_z j4 (voG y4_z (nI j4) nv) (nlG y4_z (voG y4_z (nI j4) nv) (lv y4_z (voG y4_z (nI j4) nv))) y4_z) else (x4_1 + (nI (0)), y4_z)
def L_5minute_4 (nv : Nat) (z : Nat → Int32) : Nat → (Int32) × (Nat → Int32)
  | 0 => (nI (0), z)
  | j + 1 => B_5minute_4 nv j ((L_5minute_4 nv z  j).1) ((L_5minute_4 nv z  j).2)
def B_5minute_42 (j42 : Nat) (y42_z : Nat → Int32) : (Nat → Int32) := if (y42_z (111 + 4 * j42 + 1)) ≤ 0 then (upd y42_z ((111 + (4 * j42)) + 1) ((y42_z ((111 + (4 * j42)) + 1)) - (nI (0)))) else (upd y42_z ((111 + (4 * j42)) + 1) ((y42_z ((111 + (4 * j42)) + 1)) - (nI (1))))
def L_5minute_42 (nv : Nat) (nc : Nat) (z : Nat → Int32) : Nat → (Nat → Int32)
  | 0 => (L_5minute_4 nv z nc).2
  | j + 1 => B_5minute_42  j (L_5minute_42 nv nc z  j)
def B_5minute_90 (j90 : Nat) (y90_z : Nat → Int32) : (Nat → Int32) := if (y90_z (11 + 7 * j90 + 6)) ≤ 0 then (upd y90_z ((11 + (7 * j90)) + 6) ((y90_z ((11 + (7 * j90)) + 6)) - (nI (0)))) else (upd y90_z ((11 + (7 * j90)) + 6) ((y90_z ((11 + (7 * j90)) + 6)) - (nI (1))))
def L_5minute_90 (nv : Nat) (nc : Nat) (nr : Nat) (z : Nat → Int32) : Nat → (Nat → Int32)
  | 0 => L_5minute_42 nv nc z nr
  | j + 1 => B_5minute_90  j (L_5minute_90 nv nc nr z  j)
theorem ZI_min4 {z : Nat → Int32} {nv nc nr ne : Nat} (hZ : ZI z nv nc nr ne) : ∀ j : Nat, j ≤ 4 → ZI (L_5minute_4 nv z j).2 nv nc nr ne
  | 0, _ => hZ
  | j + 1, h => by
    have ih := ZI_min4 hZ j (by omega)
    show ZI (B_5minute_4 nv j (L_5minute_4 nv z j).1 (L_5minute_4 nv z j).2).2 nv nc nr ne
    unfold B_5minute_4
    split
    · rename_i h0
      obtain ⟨h1, h2, h3, h4⟩ := idZ_0 ih h0
      exact ZI_scans (by omega) (by have := ih.1.2; omega) h4 ih
    · exact ih
theorem ZI_min42 {z : Nat → Int32} {nv nc nr ne : Nat} (hZ : ZI z nv nc nr ne) (h4 : nc ≤ 4) : ∀ j : Nat, j ≤ 3 → ZI (L_5minute_42 nv nc z j) nv nc nr ne
  | 0, _ => ZI_min4 hZ nc h4
  | j + 1, h => by
    have ih := ZI_min42 hZ h4 j (by omega)
    show ZI (B_5minute_42 j (L_5minute_42 nv nc z j)) nv nc nr ne
    have p1 : plc ((111 + (4 * j)) + 1) := ⟨by omega, by omega, by omega, by omega, fun v9 hv9 => by omega⟩
    unfold B_5minute_42
    split <;> exact ZI_upd p1 ih
theorem ZI_min90 {z : Nat → Int32} {nv nc nr ne : Nat} (hZ : ZI z nv nc nr ne) (h4 : nc ≤ 4) (h3 : nr ≤ 3) : ∀ j : Nat, j ≤ 12 → ZI (L_5minute_90 nv nc nr z j) nv nc nr ne
  | 0, _ => ZI_min42 hZ h4 nr h3
  | j + 1, h => by
    have ih := ZI_min90 hZ h4 h3 j (by omega)
    show ZI (B_5minute_90 j (L_5minute_90 nv nc nr z j)) nv nc nr ne
    have p1 : plc ((11 + (7 * j)) + 6) := ⟨by omega, by omega, by omega, by omega, fun v9 hv9 => by omega⟩
    unfold B_5minute_90
    split <;> exact ZI_upd p1 ih
def F_5minute (nv : Nat) (nc : Nat) (z : Nat → Int32) : Int32 := ((L_5minute_4 nv z nc).1)
def F_5minute_z (nv : Nat) (nc : Nat) (nr : Nat) (z : Nat → Int32) : Nat → Int32 := (upd (L_5minute_90 nv nc nr z nv) 3 (((L_5minute_90 nv nc nr z nv) 3) + (nI (1))))
theorem g_X5_minute_0_4 : ab_oks M_X5_minute [(0, .iconst 0, 1, 0, 0, 0, .int (nI (0))), (1, .istore_n 1, 1, 1, 0, 0, .null), (2, .iconst 0, 1, 0, 0, 0, .int (nI (0))), (3, .istore_n 2, 1, 2, 0, 0, .null)] = true := by decide +kernel
theorem g_X5_minute_4_4 : ab_oks M_X5_minute [(4, .iload_n 2, 1, 2, 0, 0, .null), (5, .aload_n 0, 1, 0, 0, 0, .null), (6, .getfield 7, 3, 5, 0, 936, .null), (9, .iconst 1, 1, 0, 0, 0, .int (nI (1)))] = true := by decide +kernel
theorem ok_X5_minute_10 : ab_ok M_X5_minute (10, .iaload, 1, 0, 0, 0, .null) = true := by decide +kernel
theorem dc_X5_minute_11 : decode (AM.bytes M_X5_minute) 11 = .ok (.if_icmp .ge 29, 3) := by decide +kernel
theorem g_X5_minute_14_3 : ab_oks M_X5_minute [(14, .iload_n 1, 1, 1, 0, 0, .null), (15, .aload_n 0, 1, 0, 0, 0, .null), (16, .iload_n 2, 1, 2, 0, 0, .null)] = true := by decide +kernel
theorem dc_X5_minute_17 : decode (AM.bytes M_X5_minute) 17 = .ok (.invokevirtual 101, 3) := by decide +kernel
theorem dc_X5_minute_20 : decode (AM.bytes M_X5_minute) 20 = .ok (.ifCond .ne 11, 3) := by decide +kernel
theorem g_X5_minute_31_5 : ab_oks M_X5_minute [(31, .iconst 0, 1, 0, 0, 0, .int (nI (0))), (32, .iadd, 1, 0, 0, 0, .null), (33, .istore_n 1, 1, 1, 0, 0, .null), (34, .iinc 2 1, 3, 2, 0, 0, .int (nI (1))), (37, .goto (-33), 3, 4, 0, 0, .null)] = true := by decide +kernel
theorem g_X5_minute_23_2 : ab_oks M_X5_minute [(23, .aload_n 0, 1, 0, 0, 0, .null), (24, .iload_n 2, 1, 2, 0, 0, .null)] = true := by decide +kernel
theorem lk_5_104 : ab_lkV "LeafCradlesModel" 104 M_X5_scans 1 [1095, 1097, 50, 97, 1098] = true := by decide +kernel
theorem dc_X5_minute_25 : decode (AM.bytes M_X5_minute) 25 = .ok (.invokevirtual 104, 3) := by decide +kernel
theorem g_X5_minute_28_5 : ab_oks M_X5_minute [(28, .goto 4, 3, 32, 0, 0, .null), (32, .iadd, 1, 0, 0, 0, .null), (33, .istore_n 1, 1, 1, 0, 0, .null), (34, .iinc 2 1, 3, 2, 0, 0, .int (nI (1))), (37, .goto (-33), 3, 4, 0, 0, .null)] = true := by decide +kernel
theorem g_X5_minute_40_2 : ab_oks M_X5_minute [(40, .iconst 0, 1, 0, 0, 0, .int (nI (0))), (41, .istore_n 2, 1, 2, 0, 0, .null)] = true := by decide +kernel
theorem g_X5_minute_42_4 : ab_oks M_X5_minute [(42, .iload_n 2, 1, 2, 0, 0, .null), (43, .aload_n 0, 1, 0, 0, 0, .null), (44, .getfield 7, 3, 5, 0, 936, .null), (47, .iconst 2, 1, 0, 0, 0, .int (nI (2)))] = true := by decide +kernel
theorem ok_X5_minute_48 : ab_ok M_X5_minute (48, .iaload, 1, 0, 0, 0, .null) = true := by decide +kernel
theorem dc_X5_minute_49 : decode (AM.bytes M_X5_minute) 49 = .ok (.if_icmp .ge 39, 3) := by decide +kernel
theorem g_X5_minute_52_10 : ab_oks M_X5_minute [(52, .aload_n 0, 1, 0, 0, 0, .null), (53, .getfield 7, 3, 5, 0, 936, .null), (56, .bipush 111, 2, 0, 0, 0, .int (nI (111))), (58, .iconst 4, 1, 0, 0, 0, .int (nI (4))), (59, .iload_n 2, 1, 2, 0, 0, .null), (60, .imul, 1, 0, 0, 0, .null), (61, .iadd, 1, 0, 0, 0, .null), (62, .iconst 1, 1, 0, 0, 0, .int (nI (1))), (63, .iadd, 1, 0, 0, 0, .null), (64, .dup2, 1, 0, 0, 0, .null)] = true := by decide +kernel
theorem ok_X5_minute_65 : ab_ok M_X5_minute (65, .iaload, 1, 0, 0, 0, .null) = true := by decide +kernel
theorem g_X5_minute_66_3 : ab_oks M_X5_minute [(66, .aload_n 0, 1, 0, 0, 0, .null), (67, .iload_n 2, 1, 2, 0, 0, .null), (68, .iconst 1, 1, 0, 0, 0, .int (nI (1)))] = true := by decide +kernel
theorem dc_X5_minute_69 : decode (AM.bytes M_X5_minute) 69 = .ok (.invokevirtual 58, 3) := by decide +kernel
theorem dc_X5_minute_72 : decode (AM.bytes M_X5_minute) 72 = .ok (.ifCond .le 7, 3) := by decide +kernel
theorem g_X5_minute_79_2 : ab_oks M_X5_minute [(79, .iconst 0, 1, 0, 0, 0, .int (nI (0))), (80, .isub, 1, 0, 0, 0, .null)] = true := by decide +kernel
theorem ok_X5_minute_81 : ab_ok M_X5_minute (81, .iastore, 1, 0, 0, 0, .null) = true := by decide +kernel
theorem g_X5_minute_82_2 : ab_oks M_X5_minute [(82, .iinc 2 1, 3, 2, 0, 0, .int (nI (1))), (85, .goto (-43), 3, 42, 0, 0, .null)] = true := by decide +kernel
theorem g_X5_minute_75_3 : ab_oks M_X5_minute [(75, .iconst 1, 1, 0, 0, 0, .int (nI (1))), (76, .goto 4, 3, 80, 0, 0, .null), (80, .isub, 1, 0, 0, 0, .null)] = true := by decide +kernel
theorem g_X5_minute_88_2 : ab_oks M_X5_minute [(88, .iconst 0, 1, 0, 0, 0, .int (nI (0))), (89, .istore_n 2, 1, 2, 0, 0, .null)] = true := by decide +kernel
theorem g_X5_minute_90_4 : ab_oks M_X5_minute [(90, .iload_n 2, 1, 2, 0, 0, .null), (91, .aload_n 0, 1, 0, 0, 0, .null), (92, .getfield 7, 3, 5, 0, 936, .null), (95, .iconst 0, 1, 0, 0, 0, .int (nI (0)))] = true := by decide +kernel
theorem ok_X5_minute_96 : ab_ok M_X5_minute (96, .iaload, 1, 0, 0, 0, .null) = true := by decide +kernel
theorem dc_X5_minute_97 : decode (AM.bytes M_X5_minute) 97 = .ok (.if_icmp .ge 42, 3) := by decide +kernel
theorem g_X5_minute_100_10 : ab_oks M_X5_minute [(100, .aload_n 0, 1, 0, 0, 0, .null), (101, .getfield 7, 3, 5, 0, 936, .null), (104, .bipush 11, 2, 0, 0, 0, .int (nI (11))), (106, .bipush 7, 2, 0, 0, 0, .int (nI (7))), (108, .iload_n 2, 1, 2, 0, 0, .null), (109, .imul, 1, 0, 0, 0, .null), (110, .iadd, 1, 0, 0, 0, .null), (111, .bipush 6, 2, 0, 0, 0, .int (nI (6))), (113, .iadd, 1, 0, 0, 0, .null), (114, .dup2, 1, 0, 0, 0, .null)] = true := by decide +kernel
theorem ok_X5_minute_115 : ab_ok M_X5_minute (115, .iaload, 1, 0, 0, 0, .null) = true := by decide +kernel
theorem g_X5_minute_116_3 : ab_oks M_X5_minute [(116, .aload_n 0, 1, 0, 0, 0, .null), (117, .iload_n 2, 1, 2, 0, 0, .null), (118, .bipush 6, 2, 0, 0, 0, .int (nI (6)))] = true := by decide +kernel
theorem dc_X5_minute_120 : decode (AM.bytes M_X5_minute) 120 = .ok (.invokevirtual 62, 3) := by decide +kernel
theorem dc_X5_minute_123 : decode (AM.bytes M_X5_minute) 123 = .ok (.ifCond .le 7, 3) := by decide +kernel
theorem g_X5_minute_130_2 : ab_oks M_X5_minute [(130, .iconst 0, 1, 0, 0, 0, .int (nI (0))), (131, .isub, 1, 0, 0, 0, .null)] = true := by decide +kernel
theorem ok_X5_minute_132 : ab_ok M_X5_minute (132, .iastore, 1, 0, 0, 0, .null) = true := by decide +kernel
theorem g_X5_minute_133_2 : ab_oks M_X5_minute [(133, .iinc 2 1, 3, 2, 0, 0, .int (nI (1))), (136, .goto (-46), 3, 90, 0, 0, .null)] = true := by decide +kernel
theorem g_X5_minute_126_3 : ab_oks M_X5_minute [(126, .iconst 1, 1, 0, 0, 0, .int (nI (1))), (127, .goto 4, 3, 131, 0, 0, .null), (131, .isub, 1, 0, 0, 0, .null)] = true := by decide +kernel
theorem g_X5_minute_139_4 : ab_oks M_X5_minute [(139, .aload_n 0, 1, 0, 0, 0, .null), (140, .getfield 7, 3, 5, 0, 936, .null), (143, .iconst 3, 1, 0, 0, 0, .int (nI (3))), (144, .dup2, 1, 0, 0, 0, .null)] = true := by decide +kernel
theorem ok_X5_minute_145 : ab_ok M_X5_minute (145, .iaload, 1, 0, 0, 0, .null) = true := by decide +kernel
theorem g_X5_minute_146_2 : ab_oks M_X5_minute [(146, .iconst 1, 1, 0, 0, 0, .int (nI (1))), (147, .iadd, 1, 0, 0, 0, .null)] = true := by decide +kernel
theorem ok_X5_minute_148 : ab_ok M_X5_minute (148, .iastore, 1, 0, 0, 0, .null) = true := by decide +kernel
theorem g_X5_minute_149_1 : ab_oks M_X5_minute [(149, .iload_n 1, 1, 1, 0, 0, .null)] = true := by decide +kernel
theorem dc_X5_minute_150 : decode (AM.bytes M_X5_minute) 150 = .ok (.ireturn, 1) := by decide +kernel
set_option maxRecDepth 100000 in
set_option maxHeartbeats 4000000 in
theorem s_5minute {E : AE} (d : Nat) {nv : Nat} {nc : Nat} {nr : Nat} {ne : Nat}  {o0 a0 t0 p0 u0 l0 : List AC} {z sa ro te fr to un ga pi be : Nat → Int32} {bm en sta sv ln th : Int32} {hh : Int64} (hZ : ZI z nv nc nr ne) : CT E M_X5_minute (d + 3) [.ref 16384] (hp o0 a0 t0 p0 (mo z sa ro te fr to un ga pi be bm en sta sv ln th hh) u0 l0) (.inl (some (.int (F_5minute nv nc z)))) (hp o0 a0 t0 p0 (mo (F_5minute_z nv nc nr z) sa ro te fr to un ga pi be bm en sta sv ln th hh) u0 l0) 0 0 := by
  obtain ⟨⟨hnv, h12⟩, ⟨hnc, h4⟩, ⟨hnr, h3⟩, ⟨hne, h60⟩, hLV⟩ := id hZ
  refine CT.of (L := [some (.ref 16384), none, none]) rfl rfl ?_
  refine AR.run g_X5_minute_0_4 4 [some (.ref 16384), some (.int (nI (0))), some (.int (nI (0)))] [] _ [] rfl trivial ?_
  refine AR.cast (L' := [some (.ref 16384), some (.int ((L_5minute_4 nv z 0).1)), some (.int (nI (0)))]) (by first | rfl | (rw [L_5minute_4])) rfl (by first | rfl | (rw [L_5minute_4])) (AR.loopN nc (fun j4 => [some (.ref 16384), some (.int ((L_5minute_4 nv z j4).1)), some (.int (nI (j4)))]) (fun j4 => (hp o0 a0 t0 p0 (mo ((L_5minute_4 nv z j4).2) sa ro te fr to un ga pi be bm en sta sv ln th hh) u0 l0)) (fun j4 => True) (fun j4 hj4 hI4 ih4 => ?_) (fun hI4 => ?_) 0 (by omega) (by first | trivial | omega))
  · have hA_0 : ZI ((L_5minute_4 nv z j4).2) nv nc nr ne := ZI_min4 hZ j4 (by omega)
    refine AR.run g_X5_minute_4_4 10 [some (.ref 16384), some (.int ((L_5minute_4 nv z j4).1)), some (.int (nI (j4)))] [.int (nI (1)), .ref 16385, .int (nI (j4))] _ [] rfl trivial ?_
    refine AR.ald (n := 0) (e := 1) ok_X5_minute_10 (by first | rfl | (simp only [nI_add, pk_mul]; first | done | rfl)) rfl (by omega) (by first | decide | omega) ?_
    refine AR.top hA_0.2.1.1 ?_
    refine AR.ge2N (tgt := 40) (a := j4) (b := nc) dc_X5_minute_11 (by decide) (by first | rfl | (simp only [nI_add, pk_mul]; first | done | rfl)) (by first | rfl | (simp only [nI_add, pk_mul]; first | done | rfl)) (by omega) (by omega) (fun c11_1 => absurd c11_1 (by omega)) (fun c11_1 => ?_)
    refine AR.run g_X5_minute_14_3 17 [some (.ref 16384), some (.int ((L_5minute_4 nv z j4).1)), some (.int (nI (j4)))] [.int (nI (j4)), .ref 16384, .int ((L_5minute_4 nv z j4).1)] _ [] rfl trivial ?_
    refine AR.callV1 (16384) [.int (nI (j4))] [.int ((L_5minute_4 nv z j4).1)] lk_5_101 dc_X5_minute_17 rfl rfl (s_idle _ j4 (by omega) hA_0.1.1 hA_0.1.2 hA_0.2.2.2.2) (by first | rfl | (simp only [nI_add, pk_mul]; first | done | rfl)) rfl ?_
    refine AR.ne (tgt := 31) dc_X5_minute_20 (by decide) (fun c20_2 => ?_) (fun c20_2 => ?_)
    · refine AR.run g_X5_minute_31_5 4 [some (.ref 16384), some (.int (((L_5minute_4 nv z j4).1) + (nI (0)))), some (.int ((nI (j4)) + (nI (1))))] [] _ [] rfl trivial ?_
      have e3 : L_5minute_4 nv z (j4 + 1) = (((L_5minute_4 nv z j4).1) + (nI (0)), (L_5minute_4 nv z j4).2) := by rw [L_5minute_4, B_5minute_4, if_neg c20_2]
      exact AR.cast (L' := [some (.ref 16384), some (.int ((L_5minute_4 nv z (j4 + 1)).1)), some (.int (nI (j4 + 1)))]) (by rw [e3, nI_add]) rfl (by rw [e3]) (ih4 (by first | trivial | omega))
    · obtain ⟨hi1, hi2, hi3, hi4⟩ := idZ_0 hA_0 (by assumption)
      refine AR.run g_X5_minute_23_2 25 [some (.ref 16384), some (.int ((L_5minute_4 nv z j4).1)), some (.int (nI (j4)))] [.int (nI (j4)), .ref 16384, .int ((L_5minute_4 nv z j4).1)] _ [] rfl trivial ?_
      refine AR.callV1 (16384) [.int (nI (j4))] [.int ((L_5minute_4 nv z j4).1)] lk_5_104 dc_X5_minute_25 rfl rfl (s_5scans _ j4 (by omega) hA_0.1.1 hA_0.1.2 (by assumption) (by omega) (by first | assumption | exact (hLV (voG ((L_5minute_4 nv z j4).2) (nI j4) nv) (by omega)).1 | exact (hA_0.2.2.2.2 (voG ((L_5minute_4 nv z j4).2) (nI j4) nv) (by omega)).1) (by first | assumption | exact (hLV (voG ((L_5minute_4 nv z j4).2) (nI j4) nv) (by omega)).2 | exact (hA_0.2.2.2.2 (voG ((L_5minute_4 nv z j4).2) (nI j4) nv) (by omega)).2) (by assumption) (by omega)) (by first | rfl | (simp only [nI_add, pk_mul]; first | done | rfl)) rfl ?_
      refine AR.run g_X5_minute_28_5 4 [some (.ref 16384), some (.int (((L_5minute_4 nv z j4).1) + (F_5scans j4 (voG ((L_5minute_4 nv z j4).2) (nI j4) nv) ((L_5minute_4 nv z j4).2)))), some (.int ((nI (j4)) + (nI (1))))] [] _ [] rfl trivial ?_
      have e4 : L_5minute_4 nv z (j4 + 1) = (((L_5minute_4 nv z j4).1) + (F_5scans j4 (voG ((L_5minute_4 nv z j4).2) (nI j4) nv) ((L_5minute_4 nv z j4).2)), F_5scans_z j4 (voG ((L_5minute_4 nv z j4).2) (nI j4) nv) (nlG ((L_5minute_4 nv z j4).2) (voG ((L_5minute_4 nv z j4).2) (nI j4) nv) (lv ((L_5minute_4 nv z j4).2) (voG ((L_5minute_4 nv z j4).2) (nI j4) nv))) ((L_5minute_4 nv z j4).2)) := by rw [L_5minute_4, B_5minute_4, if_pos c20_2]
      exact AR.cast (L' := [some (.ref 16384), some (.int ((L_5minute_4 nv z (j4 + 1)).1)), some (.int (nI (j4 + 1)))]) (by rw [e4, nI_add]) rfl (by rw [e4]) (ih4 (by first | trivial | omega))
  · have hA_4 : ZI ((L_5minute_4 nv z nc).2) nv nc nr ne := ZI_min4 hZ nc (by omega)
    refine AR.run g_X5_minute_4_4 10 [some (.ref 16384), some (.int ((L_5minute_4 nv z nc).1)), some (.int (nI (nc)))] [.int (nI (1)), .ref 16385, .int (nI (nc))] _ [] rfl trivial ?_
    refine AR.ald (n := 0) (e := 1) ok_X5_minute_10 (by first | rfl | (simp only [nI_add, pk_mul]; first | done | rfl)) rfl (by omega) (by first | decide | omega) ?_
    refine AR.top hA_4.2.1.1 ?_
    refine AR.ge2N (tgt := 40) (a := nc) (b := nc) dc_X5_minute_11 (by decide) (by first | rfl | (simp only [nI_add, pk_mul]; first | done | rfl)) (by first | rfl | (simp only [nI_add, pk_mul]; first | done | rfl)) (by omega) (by omega) (fun c11_5 => ?_) (fun c11_5 => absurd c11_5 (by omega))
    refine AR.run g_X5_minute_40_2 42 [some (.ref 16384), some (.int ((L_5minute_4 nv z nc).1)), some (.int (nI (0)))] [] _ [] rfl trivial ?_
    refine AR.cast (L' := [some (.ref 16384), some (.int ((L_5minute_4 nv z nc).1)), some (.int (nI (0)))]) (by first | rfl | (rw [L_5minute_42])) rfl (by first | rfl | (rw [L_5minute_42])) (AR.loopN nr (fun j42 => [some (.ref 16384), some (.int ((L_5minute_4 nv z nc).1)), some (.int (nI (j42)))]) (fun j42 => (hp o0 a0 t0 p0 (mo (L_5minute_42 nv nc z j42) sa ro te fr to un ga pi be bm en sta sv ln th hh) u0 l0)) (fun j42 => True) (fun j42 hj42 hI42 ih42 => ?_) (fun hI42 => ?_) 0 (by omega) (by first | trivial | omega))
    · have hB_5 : ZI (L_5minute_42 nv nc z j42) nv nc nr ne := ZI_min42 hZ h4 j42 (by omega)
      refine AR.run g_X5_minute_42_4 48 [some (.ref 16384), some (.int ((L_5minute_4 nv z nc).1)), some (.int (nI (j42)))] [.int (nI (2)), .ref 16385, .int (nI (j42))] _ [] rfl trivial ?_
      refine AR.ald (n := 0) (e := 2) ok_X5_minute_48 (by first | rfl | (simp only [nI_add, pk_mul]; first | done | rfl)) rfl (by omega) (by first | decide | omega) ?_
      refine AR.top hB_5.2.2.1.1 ?_
      refine AR.ge2N (tgt := 88) (a := j42) (b := nr) dc_X5_minute_49 (by decide) (by first | rfl | (simp only [nI_add, pk_mul]; first | done | rfl)) (by first | rfl | (simp only [nI_add, pk_mul]; first | done | rfl)) (by omega) (by omega) (fun c49_6 => absurd c49_6 (by omega)) (fun c49_6 => ?_)
      refine AR.run g_X5_minute_52_10 65 [some (.ref 16384), some (.int ((L_5minute_4 nv z nc).1)), some (.int (nI (j42)))] [.int (((nI (111)) + ((nI (4)) * (nI (j42)))) + (nI (1))), .ref 16385, .int (((nI (111)) + ((nI (4)) * (nI (j42)))) + (nI (1))), .ref 16385] _ [] rfl trivial ?_
      refine AR.ald (n := 0) (e := ((111 + (4 * j42)) + 1)) ok_X5_minute_65 (by first | rfl | (simp only [nI_add, pk_mul]; first | done | rfl)) rfl (by omega) (by first | decide | omega) ?_
      refine AR.run g_X5_minute_66_3 69 [some (.ref 16384), some (.int ((L_5minute_4 nv z nc).1)), some (.int (nI (j42)))] [.int (nI (1)), .int (nI (j42)), .ref 16384, .int ((L_5minute_42 nv nc z j42) ((111 + (4 * j42)) + 1)), .int (((nI (111)) + ((nI (4)) * (nI (j42)))) + (nI (1))), .ref 16385] _ [] rfl trivial ?_
      refine AR.callV1 (16384) [.int (nI (j42)), .int (nI (1))] [.int ((L_5minute_42 nv nc z j42) ((111 + (4 * j42)) + 1)), .int (nI (((111 + (4 * j42)) + 1))), .ref 16385] lk_5_58 dc_X5_minute_69 rfl rfl (s_ofCarrier _ j42 1 (by omega) (by omega)) (by first | rfl | (simp only [nI_add, pk_mul]; first | done | rfl)) rfl ?_
      refine AR.le (tgt := 79) dc_X5_minute_72 (by decide) (fun c72_7 => ?_) (fun c72_7 => ?_)
      · refine AR.run g_X5_minute_79_2 81 [some (.ref 16384), some (.int ((L_5minute_4 nv z nc).1)), some (.int (nI (j42)))] [.int (((L_5minute_42 nv nc z j42) ((111 + (4 * j42)) + 1)) - (nI (0))), .int (nI (((111 + (4 * j42)) + 1))), .ref 16385] _ [] rfl trivial ?_
        refine AR.ast (n := 0) (e := ((111 + (4 * j42)) + 1)) (h1 := (hp o0 a0 t0 p0 (mo (upd (L_5minute_42 nv nc z j42) ((111 + (4 * j42)) + 1) (((L_5minute_42 nv nc z j42) ((111 + (4 * j42)) + 1)) - (nI (0)))) sa ro te fr to un ga pi be bm en sta sv ln th hh) u0 l0)) ok_X5_minute_81 (by first | rfl | (simp only [nI_add, pk_mul]; first | done | rfl)) rfl rfl (by omega) (by decide) rfl ?_
        refine AR.run g_X5_minute_82_2 42 [some (.ref 16384), some (.int ((L_5minute_4 nv z nc).1)), some (.int ((nI (j42)) + (nI (1))))] [] _ [] rfl trivial ?_
        have e8 : L_5minute_42 nv nc z (j42 + 1) = (upd (L_5minute_42 nv nc z j42) ((111 + (4 * j42)) + 1) (((L_5minute_42 nv nc z j42) ((111 + (4 * j42)) + 1)) - (nI (0)))) := by rw [L_5minute_42, B_5minute_42, if_pos c72_7]
        exact AR.cast (L' := [some (.ref 16384), some (.int ((L_5minute_4 nv z nc).1)), some (.int (nI (j42 + 1)))]) (by first | rfl | (rw [nI_add]; done) | (rw [nI_add]; rfl)) rfl (by rw [e8]) (ih42 (by first | trivial | omega))
      · refine AR.run g_X5_minute_75_3 81 [some (.ref 16384), some (.int ((L_5minute_4 nv z nc).1)), some (.int (nI (j42)))] [.int (((L_5minute_42 nv nc z j42) ((111 + (4 * j42)) + 1)) - (nI (1))), .int (nI (((111 + (4 * j42)) + 1))), .ref 16385] _ [] rfl trivial ?_
        refine AR.ast (n := 0) (e := ((111 + (4 * j42)) + 1)) (h1 := (hp o0 a0 t0 p0 (mo (upd (L_5minute_42 nv nc z j42) ((111 + (4 * j42)) + 1) (((L_5minute_42 nv nc z j42) ((111 + (4 * j42)) + 1)) - (nI (1)))) sa ro te fr to un ga pi be bm en sta sv ln th hh) u0 l0)) ok_X5_minute_81 (by first | rfl | (simp only [nI_add, pk_mul]; first | done | rfl)) rfl rfl (by omega) (by decide) rfl ?_
        refine AR.run g_X5_minute_82_2 42 [some (.ref 16384), some (.int ((L_5minute_4 nv z nc).1)), some (.int ((nI (j42)) + (nI (1))))] [] _ [] rfl trivial ?_
        have e9 : L_5minute_42 nv nc z (j42 + 1) = (upd (L_5minute_42 nv nc z j42) ((111 + (4 * j42)) + 1) (((L_5minute_42 nv nc z j42) ((111 + (4 * j42)) + 1)) - (nI (1)))) := by rw [L_5minute_42, B_5minute_42, if_neg c72_7]
        exact AR.cast (L' := [some (.ref 16384), some (.int ((L_5minute_4 nv z nc).1)), some (.int (nI (j42 + 1)))]) (by first | rfl | (rw [nI_add]; done) | (rw [nI_add]; rfl)) rfl (by rw [e9]) (ih42 (by first | trivial | omega))
    · have hB_9 : ZI (L_5minute_42 nv nc z nr) nv nc nr ne := ZI_min42 hZ h4 nr (by omega)
      refine AR.run g_X5_minute_42_4 48 [some (.ref 16384), some (.int ((L_5minute_4 nv z nc).1)), some (.int (nI (nr)))] [.int (nI (2)), .ref 16385, .int (nI (nr))] _ [] rfl trivial ?_
      refine AR.ald (n := 0) (e := 2) ok_X5_minute_48 (by first | rfl | (simp only [nI_add, pk_mul]; first | done | rfl)) rfl (by omega) (by first | decide | omega) ?_
      refine AR.top hB_9.2.2.1.1 ?_
      refine AR.ge2N (tgt := 88) (a := nr) (b := nr) dc_X5_minute_49 (by decide) (by first | rfl | (simp only [nI_add, pk_mul]; first | done | rfl)) (by first | rfl | (simp only [nI_add, pk_mul]; first | done | rfl)) (by omega) (by omega) (fun c49_10 => ?_) (fun c49_10 => absurd c49_10 (by omega))
      refine AR.run g_X5_minute_88_2 90 [some (.ref 16384), some (.int ((L_5minute_4 nv z nc).1)), some (.int (nI (0)))] [] _ [] rfl trivial ?_
      refine AR.cast (L' := [some (.ref 16384), some (.int ((L_5minute_4 nv z nc).1)), some (.int (nI (0)))]) (by first | rfl | (rw [L_5minute_90])) rfl (by first | rfl | (rw [L_5minute_90])) (AR.loopN nv (fun j90 => [some (.ref 16384), some (.int ((L_5minute_4 nv z nc).1)), some (.int (nI (j90)))]) (fun j90 => (hp o0 a0 t0 p0 (mo (L_5minute_90 nv nc nr z j90) sa ro te fr to un ga pi be bm en sta sv ln th hh) u0 l0)) (fun j90 => True) (fun j90 hj90 hI90 ih90 => ?_) (fun hI90 => ?_) 0 (by omega) (by first | trivial | omega))
      · have hC_10 : ZI (L_5minute_90 nv nc nr z j90) nv nc nr ne := ZI_min90 hZ h4 h3 j90 (by omega)
        refine AR.run g_X5_minute_90_4 96 [some (.ref 16384), some (.int ((L_5minute_4 nv z nc).1)), some (.int (nI (j90)))] [.int (nI (0)), .ref 16385, .int (nI (j90))] _ [] rfl trivial ?_
        refine AR.ald (n := 0) (e := 0) ok_X5_minute_96 (by first | rfl | (simp only [nI_add, pk_mul]; first | done | rfl)) rfl (by omega) (by first | decide | omega) ?_
        refine AR.top hC_10.1.1 ?_
        refine AR.ge2N (tgt := 139) (a := j90) (b := nv) dc_X5_minute_97 (by decide) (by first | rfl | (simp only [nI_add, pk_mul]; first | done | rfl)) (by first | rfl | (simp only [nI_add, pk_mul]; first | done | rfl)) (by omega) (by omega) (fun c97_11 => absurd c97_11 (by omega)) (fun c97_11 => ?_)
        refine AR.run g_X5_minute_100_10 115 [some (.ref 16384), some (.int ((L_5minute_4 nv z nc).1)), some (.int (nI (j90)))] [.int (((nI (11)) + ((nI (7)) * (nI (j90)))) + (nI (6))), .ref 16385, .int (((nI (11)) + ((nI (7)) * (nI (j90)))) + (nI (6))), .ref 16385] _ [] rfl trivial ?_
        refine AR.ald (n := 0) (e := ((11 + (7 * j90)) + 6)) ok_X5_minute_115 (by first | rfl | (simp only [nI_add, pk_mul]; first | done | rfl)) rfl (by omega) (by first | decide | omega) ?_
        refine AR.run g_X5_minute_116_3 120 [some (.ref 16384), some (.int ((L_5minute_4 nv z nc).1)), some (.int (nI (j90)))] [.int (nI (6)), .int (nI (j90)), .ref 16384, .int ((L_5minute_90 nv nc nr z j90) ((11 + (7 * j90)) + 6)), .int (((nI (11)) + ((nI (7)) * (nI (j90)))) + (nI (6))), .ref 16385] _ [] rfl trivial ?_
        refine AR.callV1 (16384) [.int (nI (j90)), .int (nI (6))] [.int ((L_5minute_90 nv nc nr z j90) ((11 + (7 * j90)) + 6)), .int (nI (((11 + (7 * j90)) + 6))), .ref 16385] lk_5_62 dc_X5_minute_120 rfl rfl (s_ofVolume _ j90 6 (by omega) (by omega)) (by first | rfl | (simp only [nI_add, pk_mul]; first | done | rfl)) rfl ?_
        refine AR.le (tgt := 130) dc_X5_minute_123 (by decide) (fun c123_12 => ?_) (fun c123_12 => ?_)
        · refine AR.run g_X5_minute_130_2 132 [some (.ref 16384), some (.int ((L_5minute_4 nv z nc).1)), some (.int (nI (j90)))] [.int (((L_5minute_90 nv nc nr z j90) ((11 + (7 * j90)) + 6)) - (nI (0))), .int (nI (((11 + (7 * j90)) + 6))), .ref 16385] _ [] rfl trivial ?_
          refine AR.ast (n := 0) (e := ((11 + (7 * j90)) + 6)) (h1 := (hp o0 a0 t0 p0 (mo (upd (L_5minute_90 nv nc nr z j90) ((11 + (7 * j90)) + 6) (((L_5minute_90 nv nc nr z j90) ((11 + (7 * j90)) + 6)) - (nI (0)))) sa ro te fr to un ga pi be bm en sta sv ln th hh) u0 l0)) ok_X5_minute_132 (by first | rfl | (simp only [nI_add, pk_mul]; first | done | rfl)) rfl rfl (by omega) (by decide) rfl ?_
          refine AR.run g_X5_minute_133_2 90 [some (.ref 16384), some (.int ((L_5minute_4 nv z nc).1)), some (.int ((nI (j90)) + (nI (1))))] [] _ [] rfl trivial ?_
          have e13 : L_5minute_90 nv nc nr z (j90 + 1) = (upd (L_5minute_90 nv nc nr z j90) ((11 + (7 * j90)) + 6) (((L_5minute_90 nv nc nr z j90) ((11 + (7 * j90)) + 6)) - (nI (0)))) := by rw [L_5minute_90, B_5minute_90, if_pos c123_12]
          exact AR.cast (L' := [some (.ref 16384), some (.int ((L_5minute_4 nv z nc).1)), some (.int (nI (j90 + 1)))]) (by first | rfl | (rw [nI_add]; done) | (rw [nI_add]; rfl)) rfl (by rw [e13]) (ih90 (by first | trivial | omega))
        · refine AR.run g_X5_minute_126_3 132 [some (.ref 16384), some (.int ((L_5minute_4 nv z nc).1)), some (.int (nI (j90)))] [.int (((L_5minute_90 nv nc nr z j90) ((11 + (7 * j90)) + 6)) - (nI (1))), .int (nI (((11 + (7 * j90)) + 6))), .ref 16385] _ [] rfl trivial ?_
          refine AR.ast (n := 0) (e := ((11 + (7 * j90)) + 6)) (h1 := (hp o0 a0 t0 p0 (mo (upd (L_5minute_90 nv nc nr z j90) ((11 + (7 * j90)) + 6) (((L_5minute_90 nv nc nr z j90) ((11 + (7 * j90)) + 6)) - (nI (1)))) sa ro te fr to un ga pi be bm en sta sv ln th hh) u0 l0)) ok_X5_minute_132 (by first | rfl | (simp only [nI_add, pk_mul]; first | done | rfl)) rfl rfl (by omega) (by decide) rfl ?_
          refine AR.run g_X5_minute_133_2 90 [some (.ref 16384), some (.int ((L_5minute_4 nv z nc).1)), some (.int ((nI (j90)) + (nI (1))))] [] _ [] rfl trivial ?_
          have e14 : L_5minute_90 nv nc nr z (j90 + 1) = (upd (L_5minute_90 nv nc nr z j90) ((11 + (7 * j90)) + 6) (((L_5minute_90 nv nc nr z j90) ((11 + (7 * j90)) + 6)) - (nI (1)))) := by rw [L_5minute_90, B_5minute_90, if_neg c123_12]
          exact AR.cast (L' := [some (.ref 16384), some (.int ((L_5minute_4 nv z nc).1)), some (.int (nI (j90 + 1)))]) (by first | rfl | (rw [nI_add]; done) | (rw [nI_add]; rfl)) rfl (by rw [e14]) (ih90 (by first | trivial | omega))
      · have hC_14 : ZI (L_5minute_90 nv nc nr z nv) nv nc nr ne := ZI_min90 hZ h4 h3 nv (by omega)
        refine AR.run g_X5_minute_90_4 96 [some (.ref 16384), some (.int ((L_5minute_4 nv z nc).1)), some (.int (nI (nv)))] [.int (nI (0)), .ref 16385, .int (nI (nv))] _ [] rfl trivial ?_
        refine AR.ald (n := 0) (e := 0) ok_X5_minute_96 (by first | rfl | (simp only [nI_add, pk_mul]; first | done | rfl)) rfl (by omega) (by first | decide | omega) ?_
        refine AR.top hC_14.1.1 ?_
        refine AR.ge2N (tgt := 139) (a := nv) (b := nv) dc_X5_minute_97 (by decide) (by first | rfl | (simp only [nI_add, pk_mul]; first | done | rfl)) (by first | rfl | (simp only [nI_add, pk_mul]; first | done | rfl)) (by omega) (by omega) (fun c97_15 => ?_) (fun c97_15 => absurd c97_15 (by omega))
        refine AR.run g_X5_minute_139_4 145 [some (.ref 16384), some (.int ((L_5minute_4 nv z nc).1)), some (.int (nI (nv)))] [.int (nI (3)), .ref 16385, .int (nI (3)), .ref 16385] _ [] rfl trivial ?_
        refine AR.ald (n := 0) (e := 3) ok_X5_minute_145 (by first | rfl | (simp only [nI_add, pk_mul]; first | done | rfl)) rfl (by omega) (by first | decide | omega) ?_
        refine AR.run g_X5_minute_146_2 148 [some (.ref 16384), some (.int ((L_5minute_4 nv z nc).1)), some (.int (nI (nv)))] [.int (((L_5minute_90 nv nc nr z nv) 3) + (nI (1))), .int (nI (3)), .ref 16385] _ [] rfl trivial ?_
        refine AR.ast (n := 0) (e := 3) (h1 := (hp o0 a0 t0 p0 (mo (upd (L_5minute_90 nv nc nr z nv) 3 (((L_5minute_90 nv nc nr z nv) 3) + (nI (1)))) sa ro te fr to un ga pi be bm en sta sv ln th hh) u0 l0)) ok_X5_minute_148 (by first | rfl | (simp only [nI_add, pk_mul]; first | done | rfl)) rfl rfl (by omega) (by decide) rfl ?_
        refine AR.run g_X5_minute_149_1 150 [some (.ref 16384), some (.int ((L_5minute_4 nv z nc).1)), some (.int (nI (nv)))] [.int ((L_5minute_4 nv z nc).1)] _ [] rfl trivial ?_
        have e16_0 : F_5minute nv nc z = ((L_5minute_4 nv z nc).1) := by rw [F_5minute]
        have e16_1 : F_5minute_z nv nc nr z = (upd (L_5minute_90 nv nc nr z nv) 3 (((L_5minute_90 nv nc nr z nv) 3) + (nI (1)))) := by rw [F_5minute_z]
        exact AR.retI dc_X5_minute_150 rfl e16_0.symm (by rw [e16_1])
theorem ZI_minute {z : Nat → Int32} {nv nc nr ne : Nat} (hZ : ZI z nv nc nr ne) : ZI (F_5minute_z nv nc nr z) nv nc nr ne := by
  unfold F_5minute_z
  exact ZI_upd ⟨by omega, by omega, by omega, by omega, fun v9 hv9 => by omega⟩ (ZI_min90 hZ hZ.2.1.2 hZ.2.2.1.2 nv hZ.1.2)
