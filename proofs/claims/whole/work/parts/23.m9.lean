def B_5canPick_38 (c : Nat) (pi : Nat → Int32) (j38 : Nat) (x38_2 : Int32) : (Int32) := if x38_2 = 0 then (nI (0)) else if (pi c) = (-1) then (nI (1)) else if (pi j38) = (pi c) then (nI (0)) else (nI (1))
def L_5canPick_38 (c : Nat) (pi : Nat → Int32) (i38_0 : Int32) : Nat → (Int32)
  | 0 => i38_0
  | j + 1 => B_5canPick_38 c pi j (L_5canPick_38 c pi i38_0 j)
def F_5canPick (c : Nat) (ga : Nat → Int32) (pi : Nat → Int32) : Int32 := if (pi c) = (-1) then (L_5canPick_38 c pi (nI (1)) c) else if (ga ((12 * c) + (pi c).toNatClampNeg)) = (-1) then (L_5canPick_38 c pi (nI (0)) c) else (L_5canPick_38 c pi (nI (1)) c)
theorem g_X5_canPick_0_3 : ab_oks M_X5_canPick [(0, .aload_n 0, 1, 0, 0, 0, .null), (1, .getfield 34, 3, 5, 8, 944, .null), (4, .iload_n 1, 1, 1, 0, 0, .null)] = true := by decide +kernel
theorem ok_X5_canPick_5 : ab_ok M_X5_canPick (5, .iaload, 1, 0, 0, 0, .null) = true := by decide +kernel
theorem g_X5_canPick_6_1 : ab_oks M_X5_canPick [(6, .iconst (-1), 1, 0, 0, 0, .int (-1))] = true := by decide +kernel
theorem dc_X5_canPick_7 : decode (AM.bytes M_X5_canPick) 7 = .ok (.if_icmp .eq 23, 3) := by decide +kernel
theorem g_X5_canPick_30_5 : ab_oks M_X5_canPick [(30, .iconst 1, 1, 0, 0, 0, .int (nI (1))), (31, .goto 4, 3, 35, 0, 0, .null), (35, .istore_n 2, 1, 2, 0, 0, .null), (36, .iconst 0, 1, 0, 0, 0, .int (nI (0))), (37, .istore_n 3, 1, 3, 0, 0, .null)] = true := by decide +kernel
theorem g_X5_canPick_38_2 : ab_oks M_X5_canPick [(38, .iload_n 3, 1, 3, 0, 0, .null), (39, .iload_n 1, 1, 1, 0, 0, .null)] = true := by decide +kernel
theorem dc_X5_canPick_40 : decode (AM.bytes M_X5_canPick) 40 = .ok (.if_icmp .ge 44, 3) := by decide +kernel
theorem g_X5_canPick_43_1 : ab_oks M_X5_canPick [(43, .iload_n 2, 1, 2, 0, 0, .null)] = true := by decide +kernel
theorem dc_X5_canPick_44 : decode (AM.bytes M_X5_canPick) 44 = .ok (.ifCond .eq 32, 3) := by decide +kernel
theorem g_X5_canPick_76_4 : ab_oks M_X5_canPick [(76, .iconst 0, 1, 0, 0, 0, .int (nI (0))), (77, .istore_n 2, 1, 2, 0, 0, .null), (78, .iinc 3 1, 3, 3, 0, 0, .int (nI (1))), (81, .goto (-43), 3, 38, 0, 0, .null)] = true := by decide +kernel
theorem g_X5_canPick_47_3 : ab_oks M_X5_canPick [(47, .aload_n 0, 1, 0, 0, 0, .null), (48, .getfield 34, 3, 5, 8, 944, .null), (51, .iload_n 1, 1, 1, 0, 0, .null)] = true := by decide +kernel
theorem ok_X5_canPick_52 : ab_ok M_X5_canPick (52, .iaload, 1, 0, 0, 0, .null) = true := by decide +kernel
theorem g_X5_canPick_53_1 : ab_oks M_X5_canPick [(53, .iconst (-1), 1, 0, 0, 0, .int (-1))] = true := by decide +kernel
theorem dc_X5_canPick_54 : decode (AM.bytes M_X5_canPick) 54 = .ok (.if_icmp .eq 18, 3) := by decide +kernel
theorem g_X5_canPick_72_5 : ab_oks M_X5_canPick [(72, .iconst 1, 1, 0, 0, 0, .int (nI (1))), (73, .goto 4, 3, 77, 0, 0, .null), (77, .istore_n 2, 1, 2, 0, 0, .null), (78, .iinc 3 1, 3, 3, 0, 0, .int (nI (1))), (81, .goto (-43), 3, 38, 0, 0, .null)] = true := by decide +kernel
theorem g_X5_canPick_57_3 : ab_oks M_X5_canPick [(57, .aload_n 0, 1, 0, 0, 0, .null), (58, .getfield 34, 3, 5, 8, 944, .null), (61, .iload_n 3, 1, 3, 0, 0, .null)] = true := by decide +kernel
theorem ok_X5_canPick_62 : ab_ok M_X5_canPick (62, .iaload, 1, 0, 0, 0, .null) = true := by decide +kernel
theorem g_X5_canPick_63_3 : ab_oks M_X5_canPick [(63, .aload_n 0, 1, 0, 0, 0, .null), (64, .getfield 34, 3, 5, 8, 944, .null), (67, .iload_n 1, 1, 1, 0, 0, .null)] = true := by decide +kernel
theorem ok_X5_canPick_68 : ab_ok M_X5_canPick (68, .iaload, 1, 0, 0, 0, .null) = true := by decide +kernel
theorem dc_X5_canPick_69 : decode (AM.bytes M_X5_canPick) 69 = .ok (.if_icmp .eq 7, 3) := by decide +kernel
theorem g_X5_canPick_84_1 : ab_oks M_X5_canPick [(84, .iload_n 2, 1, 2, 0, 0, .null)] = true := by decide +kernel
theorem dc_X5_canPick_85 : decode (AM.bytes M_X5_canPick) 85 = .ok (.ireturn, 1) := by decide +kernel
theorem g_X5_canPick_10_8 : ab_oks M_X5_canPick [(10, .aload_n 0, 1, 0, 0, 0, .null), (11, .getfield 31, 3, 5, 7, 943, .null), (14, .bipush 12, 2, 0, 0, 0, .int (nI (12))), (16, .iload_n 1, 1, 1, 0, 0, .null), (17, .imul, 1, 0, 0, 0, .null), (18, .aload_n 0, 1, 0, 0, 0, .null), (19, .getfield 34, 3, 5, 8, 944, .null), (22, .iload_n 1, 1, 1, 0, 0, .null)] = true := by decide +kernel
theorem ok_X5_canPick_23 : ab_ok M_X5_canPick (23, .iaload, 1, 0, 0, 0, .null) = true := by decide +kernel
theorem g_X5_canPick_24_1 : ab_oks M_X5_canPick [(24, .iadd, 1, 0, 0, 0, .null)] = true := by decide +kernel
theorem ok_X5_canPick_25 : ab_ok M_X5_canPick (25, .iaload, 1, 0, 0, 0, .null) = true := by decide +kernel
theorem g_X5_canPick_26_1 : ab_oks M_X5_canPick [(26, .iconst (-1), 1, 0, 0, 0, .int (-1))] = true := by decide +kernel
theorem dc_X5_canPick_27 : decode (AM.bytes M_X5_canPick) 27 = .ok (.if_icmp .eq 7, 3) := by decide +kernel
theorem g_X5_canPick_34_4 : ab_oks M_X5_canPick [(34, .iconst 0, 1, 0, 0, 0, .int (nI (0))), (35, .istore_n 2, 1, 2, 0, 0, .null), (36, .iconst 0, 1, 0, 0, 0, .int (nI (0))), (37, .istore_n 3, 1, 3, 0, 0, .null)] = true := by decide +kernel
set_option maxRecDepth 100000 in
set_option maxHeartbeats 4000000 in
theorem s_5canPick {E : AE} (d : Nat) (c : Nat)  {o0 a0 t0 p0 u0 l0 : List AC} {z sa ro te fr to un ga pi be : Nat → Int32} {bm en sta sv ln th : Int32} {hh : Int64} (hc : c < 4) (hpk : QI 12 (pi c)) : CT E M_X5_canPick d [.ref 16384, .int (nI (c))] (hp o0 a0 t0 p0 (mo z sa ro te fr to un ga pi be bm en sta sv ln th hh) u0 l0) (.inl (some (.int (F_5canPick c ga pi)))) (hp o0 a0 t0 p0 (mo z sa ro te fr to un ga pi be bm en sta sv ln th hh) u0 l0) 0 0 := by
  refine CT.of (L := [some (.ref 16384), some (.int (nI (c))), none, none]) rfl rfl ?_
  refine AR.run g_X5_canPick_0_3 5 [some (.ref 16384), some (.int (nI (c))), none, none] [.int (nI (c)), .ref 16393] _ [] rfl trivial ?_
  refine AR.ald (n := 0) (e := c) ok_X5_canPick_5 (by first | rfl | (simp only [nI_add, pk_mul]; first | done | rfl)) rfl (by omega) (by first | decide | omega) ?_
  refine AR.run g_X5_canPick_6_1 7 [some (.ref 16384), some (.int (nI (c))), none, none] [.int (-1), .int (pi c)] _ [] rfl trivial ?_
  refine AR.eq2 (tgt := 30) dc_X5_canPick_7 (by decide) (fun c7_1 => ?_) (fun c7_1 => ?_)
  · refine AR.run g_X5_canPick_30_5 38 [some (.ref 16384), some (.int (nI (c))), some (.int (nI (1))), some (.int (nI (0)))] [] _ [] rfl trivial ?_
    refine AR.cast (L' := [some (.ref 16384), some (.int (nI (c))), some (.int (L_5canPick_38 c pi (nI (1)) 0)), some (.int (nI (0)))]) (by first | rfl | (rw [L_5canPick_38])) rfl rfl (AR.loopN c (fun j38 => [some (.ref 16384), some (.int (nI (c))), some (.int (L_5canPick_38 c pi (nI (1)) j38)), some (.int (nI (j38)))]) (fun j38 => (hp o0 a0 t0 p0 (mo z sa ro te fr to un ga pi be bm en sta sv ln th hh) u0 l0)) (fun j38 => (L_5canPick_38 c pi (nI (1)) j38 = 0 ∨ L_5canPick_38 c pi (nI (1)) j38 = 1)) (fun j38 hj38 hI38 ih38 => ?_) (fun hI38 => ?_) 0 (by omega) (by first | exact Or.inl rfl | exact Or.inr rfl))
    · refine AR.run g_X5_canPick_38_2 40 [some (.ref 16384), some (.int (nI (c))), some (.int (L_5canPick_38 c pi (nI (1)) j38)), some (.int (nI (j38)))] [.int (nI (c)), .int (nI (j38))] _ [] rfl trivial ?_
      refine AR.ge2N (tgt := 84) (a := j38) (b := c) dc_X5_canPick_40 (by decide) (by first | rfl | (simp only [nI_add, pk_mul]; first | done | rfl)) (by first | rfl | (simp only [nI_add, pk_mul]; first | done | rfl)) (by omega) (by omega) (fun c40_2 => absurd c40_2 (by omega)) (fun c40_2 => ?_)
      refine AR.run g_X5_canPick_43_1 44 [some (.ref 16384), some (.int (nI (c))), some (.int (L_5canPick_38 c pi (nI (1)) j38)), some (.int (nI (j38)))] [.int (L_5canPick_38 c pi (nI (1)) j38)] _ [] rfl trivial ?_
      refine AR.eq (tgt := 76) dc_X5_canPick_44 (by decide) (fun c44_3 => ?_) (fun c44_3 => ?_)
      · refine AR.run g_X5_canPick_76_4 38 [some (.ref 16384), some (.int (nI (c))), some (.int (nI (0))), some (.int ((nI (j38)) + (nI (1))))] [] _ [] rfl trivial ?_
        have e4 : L_5canPick_38 c pi (nI (1)) (j38 + 1) = (nI (0)) := by rw [L_5canPick_38, B_5canPick_38, if_pos c44_3]
        exact AR.cast (L' := [some (.ref 16384), some (.int (nI (c))), some (.int (L_5canPick_38 c pi (nI (1)) (j38 + 1))), some (.int (nI (j38 + 1)))]) (by rw [e4, nI_add]) rfl rfl (ih38 (by rw [e4]; first | exact Or.inl rfl | exact Or.inr rfl))
      · refine AR.run g_X5_canPick_47_3 52 [some (.ref 16384), some (.int (nI (c))), some (.int (L_5canPick_38 c pi (nI (1)) j38)), some (.int (nI (j38)))] [.int (nI (c)), .ref 16393] _ [] rfl trivial ?_
        refine AR.ald (n := 0) (e := c) ok_X5_canPick_52 (by first | rfl | (simp only [nI_add, pk_mul]; first | done | rfl)) rfl (by omega) (by first | decide | omega) ?_
        refine AR.run g_X5_canPick_53_1 54 [some (.ref 16384), some (.int (nI (c))), some (.int (L_5canPick_38 c pi (nI (1)) j38)), some (.int (nI (j38)))] [.int (-1), .int (pi c)] _ [] rfl trivial ?_
        refine AR.eq2 (tgt := 72) dc_X5_canPick_54 (by decide) (fun c54_5 => ?_) (fun c54_5 => ?_)
        · refine AR.run g_X5_canPick_72_5 38 [some (.ref 16384), some (.int (nI (c))), some (.int (nI (1))), some (.int ((nI (j38)) + (nI (1))))] [] _ [] rfl trivial ?_
          have e6 : L_5canPick_38 c pi (nI (1)) (j38 + 1) = (nI (1)) := by rw [L_5canPick_38, B_5canPick_38, if_neg c44_3, if_pos c54_5]
          exact AR.cast (L' := [some (.ref 16384), some (.int (nI (c))), some (.int (L_5canPick_38 c pi (nI (1)) (j38 + 1))), some (.int (nI (j38 + 1)))]) (by rw [e6, nI_add]) rfl rfl (ih38 (by rw [e6]; first | exact Or.inl rfl | exact Or.inr rfl))
        · refine AR.run g_X5_canPick_57_3 62 [some (.ref 16384), some (.int (nI (c))), some (.int (L_5canPick_38 c pi (nI (1)) j38)), some (.int (nI (j38)))] [.int (nI (j38)), .ref 16393] _ [] rfl trivial ?_
          refine AR.ald (n := 0) (e := j38) ok_X5_canPick_62 (by first | rfl | (simp only [nI_add, pk_mul]; first | done | rfl)) rfl (by omega) (by first | decide | omega) ?_
          refine AR.run g_X5_canPick_63_3 68 [some (.ref 16384), some (.int (nI (c))), some (.int (L_5canPick_38 c pi (nI (1)) j38)), some (.int (nI (j38)))] [.int (nI (c)), .ref 16393, .int (pi j38)] _ [] rfl trivial ?_
          refine AR.ald (n := 0) (e := c) ok_X5_canPick_68 (by first | rfl | (simp only [nI_add, pk_mul]; first | done | rfl)) rfl (by omega) (by first | decide | omega) ?_
          refine AR.eq2 (tgt := 76) dc_X5_canPick_69 (by decide) (fun c69_7 => ?_) (fun c69_7 => ?_)
          · refine AR.run g_X5_canPick_76_4 38 [some (.ref 16384), some (.int (nI (c))), some (.int (nI (0))), some (.int ((nI (j38)) + (nI (1))))] [] _ [] rfl trivial ?_
            have e8 : L_5canPick_38 c pi (nI (1)) (j38 + 1) = (nI (0)) := by rw [L_5canPick_38, B_5canPick_38, if_neg c44_3, if_neg c54_5, if_pos c69_7]
            exact AR.cast (L' := [some (.ref 16384), some (.int (nI (c))), some (.int (L_5canPick_38 c pi (nI (1)) (j38 + 1))), some (.int (nI (j38 + 1)))]) (by rw [e8, nI_add]) rfl rfl (ih38 (by rw [e8]; first | exact Or.inl rfl | exact Or.inr rfl))
          · refine AR.run g_X5_canPick_72_5 38 [some (.ref 16384), some (.int (nI (c))), some (.int (nI (1))), some (.int ((nI (j38)) + (nI (1))))] [] _ [] rfl trivial ?_
            have e9 : L_5canPick_38 c pi (nI (1)) (j38 + 1) = (nI (1)) := by rw [L_5canPick_38, B_5canPick_38, if_neg c44_3, if_neg c54_5, if_neg c69_7]
            exact AR.cast (L' := [some (.ref 16384), some (.int (nI (c))), some (.int (L_5canPick_38 c pi (nI (1)) (j38 + 1))), some (.int (nI (j38 + 1)))]) (by rw [e9, nI_add]) rfl rfl (ih38 (by rw [e9]; first | exact Or.inl rfl | exact Or.inr rfl))
    · refine AR.run g_X5_canPick_38_2 40 [some (.ref 16384), some (.int (nI (c))), some (.int (L_5canPick_38 c pi (nI (1)) c)), some (.int (nI (c)))] [.int (nI (c)), .int (nI (c))] _ [] rfl trivial ?_
      refine AR.ge2N (tgt := 84) (a := c) (b := c) dc_X5_canPick_40 (by decide) (by first | rfl | (simp only [nI_add, pk_mul]; first | done | rfl)) (by first | rfl | (simp only [nI_add, pk_mul]; first | done | rfl)) (by omega) (by omega) (fun c40_10 => ?_) (fun c40_10 => absurd c40_10 (by omega))
      refine AR.run g_X5_canPick_84_1 85 [some (.ref 16384), some (.int (nI (c))), some (.int (L_5canPick_38 c pi (nI (1)) c)), some (.int (nI (c)))] [.int (L_5canPick_38 c pi (nI (1)) c)] _ [] rfl trivial ?_
      have e11_0 : F_5canPick c ga pi = (L_5canPick_38 c pi (nI (1)) c) := by rw [F_5canPick, if_pos c7_1]
      exact AR.retZ dc_X5_canPick_85 rfl hI38 e11_0.symm rfl
  · refine AR.run g_X5_canPick_10_8 23 [some (.ref 16384), some (.int (nI (c))), none, none] [.int (nI (c)), .ref 16393, .int ((nI (12)) * (nI (c))), .ref 16392] _ [] rfl trivial ?_
    refine AR.ald (n := 0) (e := c) ok_X5_canPick_23 (by first | rfl | (simp only [nI_add, pk_mul]; first | done | rfl)) rfl (by omega) (by first | decide | omega) ?_
    obtain ⟨hx9, hy9⟩ := QI_get (by omega) hpk (by assumption)
    refine AR.cast (st' := [.int (nI ((pi c).toNatClampNeg)), .int ((nI (12)) * (nI (c))), .ref 16392]) rfl (by rw [← hx9]) rfl ?_
    refine AR.run g_X5_canPick_24_1 25 [some (.ref 16384), some (.int (nI (c))), none, none] [.int (((nI (12)) * (nI (c))) + (nI ((pi c).toNatClampNeg))), .ref 16392] _ [] rfl trivial ?_
    refine AR.ald (n := 0) (e := ((12 * c) + (pi c).toNatClampNeg)) ok_X5_canPick_25 (by first | rfl | (simp only [nI_add, pk_mul]; first | done | rfl)) rfl (by omega) (by first | decide | omega) ?_
    refine AR.run g_X5_canPick_26_1 27 [some (.ref 16384), some (.int (nI (c))), none, none] [.int (-1), .int (ga ((12 * c) + (pi c).toNatClampNeg))] _ [] rfl trivial ?_
    refine AR.eq2 (tgt := 34) dc_X5_canPick_27 (by decide) (fun c27_12 => ?_) (fun c27_12 => ?_)
    · refine AR.run g_X5_canPick_34_4 38 [some (.ref 16384), some (.int (nI (c))), some (.int (nI (0))), some (.int (nI (0)))] [] _ [] rfl trivial ?_
      refine AR.cast (L' := [some (.ref 16384), some (.int (nI (c))), some (.int (L_5canPick_38 c pi (nI (0)) 0)), some (.int (nI (0)))]) (by first | rfl | (rw [L_5canPick_38])) rfl rfl (AR.loopN c (fun j38 => [some (.ref 16384), some (.int (nI (c))), some (.int (L_5canPick_38 c pi (nI (0)) j38)), some (.int (nI (j38)))]) (fun j38 => (hp o0 a0 t0 p0 (mo z sa ro te fr to un ga pi be bm en sta sv ln th hh) u0 l0)) (fun j38 => (L_5canPick_38 c pi (nI (0)) j38 = 0 ∨ L_5canPick_38 c pi (nI (0)) j38 = 1)) (fun j38 hj38 hI38 ih38 => ?_) (fun hI38 => ?_) 0 (by omega) (by first | exact Or.inl rfl | exact Or.inr rfl))
      · refine AR.run g_X5_canPick_38_2 40 [some (.ref 16384), some (.int (nI (c))), some (.int (L_5canPick_38 c pi (nI (0)) j38)), some (.int (nI (j38)))] [.int (nI (c)), .int (nI (j38))] _ [] rfl trivial ?_
        refine AR.ge2N (tgt := 84) (a := j38) (b := c) dc_X5_canPick_40 (by decide) (by first | rfl | (simp only [nI_add, pk_mul]; first | done | rfl)) (by first | rfl | (simp only [nI_add, pk_mul]; first | done | rfl)) (by omega) (by omega) (fun c40_13 => absurd c40_13 (by omega)) (fun c40_13 => ?_)
        refine AR.run g_X5_canPick_43_1 44 [some (.ref 16384), some (.int (nI (c))), some (.int (L_5canPick_38 c pi (nI (0)) j38)), some (.int (nI (j38)))] [.int (L_5canPick_38 c pi (nI (0)) j38)] _ [] rfl trivial ?_
        refine AR.eq (tgt := 76) dc_X5_canPick_44 (by decide) (fun c44_14 => ?_) (fun c44_14 => ?_)
        · refine AR.run g_X5_canPick_76_4 38 [some (.ref 16384), some (.int (nI (c))), some (.int (nI (0))), some (.int ((nI (j38)) + (nI (1))))] [] _ [] rfl trivial ?_
          have e15 : L_5canPick_38 c pi (nI (0)) (j38 + 1) = (nI (0)) := by rw [L_5canPick_38, B_5canPick_38, if_pos c44_14]
          exact AR.cast (L' := [some (.ref 16384), some (.int (nI (c))), some (.int (L_5canPick_38 c pi (nI (0)) (j38 + 1))), some (.int (nI (j38 + 1)))]) (by rw [e15, nI_add]) rfl rfl (ih38 (by rw [e15]; first | exact Or.inl rfl | exact Or.inr rfl))
        · refine AR.run g_X5_canPick_47_3 52 [some (.ref 16384), some (.int (nI (c))), some (.int (L_5canPick_38 c pi (nI (0)) j38)), some (.int (nI (j38)))] [.int (nI (c)), .ref 16393] _ [] rfl trivial ?_
          refine AR.ald (n := 0) (e := c) ok_X5_canPick_52 (by first | rfl | (simp only [nI_add, pk_mul]; first | done | rfl)) rfl (by omega) (by first | decide | omega) ?_
          refine AR.run g_X5_canPick_53_1 54 [some (.ref 16384), some (.int (nI (c))), some (.int (L_5canPick_38 c pi (nI (0)) j38)), some (.int (nI (j38)))] [.int (-1), .int (pi c)] _ [] rfl trivial ?_
          refine AR.eq2 (tgt := 72) dc_X5_canPick_54 (by decide) (fun c54_16 => ?_) (fun c54_16 => ?_)
          · refine AR.run g_X5_canPick_72_5 38 [some (.ref 16384), some (.int (nI (c))), some (.int (nI (1))), some (.int ((nI (j38)) + (nI (1))))] [] _ [] rfl trivial ?_
            have e17 : L_5canPick_38 c pi (nI (0)) (j38 + 1) = (nI (1)) := by rw [L_5canPick_38, B_5canPick_38, if_neg c44_14, if_pos c54_16]
            exact AR.cast (L' := [some (.ref 16384), some (.int (nI (c))), some (.int (L_5canPick_38 c pi (nI (0)) (j38 + 1))), some (.int (nI (j38 + 1)))]) (by rw [e17, nI_add]) rfl rfl (ih38 (by rw [e17]; first | exact Or.inl rfl | exact Or.inr rfl))
          · refine AR.run g_X5_canPick_57_3 62 [some (.ref 16384), some (.int (nI (c))), some (.int (L_5canPick_38 c pi (nI (0)) j38)), some (.int (nI (j38)))] [.int (nI (j38)), .ref 16393] _ [] rfl trivial ?_
            refine AR.ald (n := 0) (e := j38) ok_X5_canPick_62 (by first | rfl | (simp only [nI_add, pk_mul]; first | done | rfl)) rfl (by omega) (by first | decide | omega) ?_
            refine AR.run g_X5_canPick_63_3 68 [some (.ref 16384), some (.int (nI (c))), some (.int (L_5canPick_38 c pi (nI (0)) j38)), some (.int (nI (j38)))] [.int (nI (c)), .ref 16393, .int (pi j38)] _ [] rfl trivial ?_
            refine AR.ald (n := 0) (e := c) ok_X5_canPick_68 (by first | rfl | (simp only [nI_add, pk_mul]; first | done | rfl)) rfl (by omega) (by first | decide | omega) ?_
            refine AR.eq2 (tgt := 76) dc_X5_canPick_69 (by decide) (fun c69_18 => ?_) (fun c69_18 => ?_)
            · refine AR.run g_X5_canPick_76_4 38 [some (.ref 16384), some (.int (nI (c))), some (.int (nI (0))), some (.int ((nI (j38)) + (nI (1))))] [] _ [] rfl trivial ?_
              have e19 : L_5canPick_38 c pi (nI (0)) (j38 + 1) = (nI (0)) := by rw [L_5canPick_38, B_5canPick_38, if_neg c44_14, if_neg c54_16, if_pos c69_18]
              exact AR.cast (L' := [some (.ref 16384), some (.int (nI (c))), some (.int (L_5canPick_38 c pi (nI (0)) (j38 + 1))), some (.int (nI (j38 + 1)))]) (by rw [e19, nI_add]) rfl rfl (ih38 (by rw [e19]; first | exact Or.inl rfl | exact Or.inr rfl))
            · refine AR.run g_X5_canPick_72_5 38 [some (.ref 16384), some (.int (nI (c))), some (.int (nI (1))), some (.int ((nI (j38)) + (nI (1))))] [] _ [] rfl trivial ?_
              have e20 : L_5canPick_38 c pi (nI (0)) (j38 + 1) = (nI (1)) := by rw [L_5canPick_38, B_5canPick_38, if_neg c44_14, if_neg c54_16, if_neg c69_18]
              exact AR.cast (L' := [some (.ref 16384), some (.int (nI (c))), some (.int (L_5canPick_38 c pi (nI (0)) (j38 + 1))), some (.int (nI (j38 + 1)))]) (by rw [e20, nI_add]) rfl rfl (ih38 (by rw [e20]; first | exact Or.inl rfl | exact Or.inr rfl))
      · refine AR.run g_X5_canPick_38_2 40 [some (.ref 16384), some (.int (nI (c))), some (.int (L_5canPick_38 c pi (nI (0)) c)), some (.int (nI (c)))] [.int (nI (c)), .int (nI (c))] _ [] rfl trivial ?_
        refine AR.ge2N (tgt := 84) (a := c) (b := c) dc_X5_canPick_40 (by decide) (by first | rfl | (simp only [nI_add, pk_mul]; first | done | rfl)) (by first | rfl | (simp only [nI_add, pk_mul]; first | done | rfl)) (by omega) (by omega) (fun c40_21 => ?_) (fun c40_21 => absurd c40_21 (by omega))
        refine AR.run g_X5_canPick_84_1 85 [some (.ref 16384), some (.int (nI (c))), some (.int (L_5canPick_38 c pi (nI (0)) c)), some (.int (nI (c)))] [.int (L_5canPick_38 c pi (nI (0)) c)] _ [] rfl trivial ?_
        have e22_0 : F_5canPick c ga pi = (L_5canPick_38 c pi (nI (0)) c) := by rw [F_5canPick, if_neg c7_1, if_pos c27_12]
        exact AR.retZ dc_X5_canPick_85 rfl hI38 e22_0.symm rfl
    · refine AR.run g_X5_canPick_30_5 38 [some (.ref 16384), some (.int (nI (c))), some (.int (nI (1))), some (.int (nI (0)))] [] _ [] rfl trivial ?_
      refine AR.cast (L' := [some (.ref 16384), some (.int (nI (c))), some (.int (L_5canPick_38 c pi (nI (1)) 0)), some (.int (nI (0)))]) (by first | rfl | (rw [L_5canPick_38])) rfl rfl (AR.loopN c (fun j38 => [some (.ref 16384), some (.int (nI (c))), some (.int (L_5canPick_38 c pi (nI (1)) j38)), some (.int (nI (j38)))]) (fun j38 => (hp o0 a0 t0 p0 (mo z sa ro te fr to un ga pi be bm en sta sv ln th hh) u0 l0)) (fun j38 => (L_5canPick_38 c pi (nI (1)) j38 = 0 ∨ L_5canPick_38 c pi (nI (1)) j38 = 1)) (fun j38 hj38 hI38 ih38 => ?_) (fun hI38 => ?_) 0 (by omega) (by first | exact Or.inl rfl | exact Or.inr rfl))
      · refine AR.run g_X5_canPick_38_2 40 [some (.ref 16384), some (.int (nI (c))), some (.int (L_5canPick_38 c pi (nI (1)) j38)), some (.int (nI (j38)))] [.int (nI (c)), .int (nI (j38))] _ [] rfl trivial ?_
        refine AR.ge2N (tgt := 84) (a := j38) (b := c) dc_X5_canPick_40 (by decide) (by first | rfl | (simp only [nI_add, pk_mul]; first | done | rfl)) (by first | rfl | (simp only [nI_add, pk_mul]; first | done | rfl)) (by omega) (by omega) (fun c40_23 => absurd c40_23 (by omega)) (fun c40_23 => ?_)
        refine AR.run g_X5_canPick_43_1 44 [some (.ref 16384), some (.int (nI (c))), some (.int (L_5canPick_38 c pi (nI (1)) j38)), some (.int (nI (j38)))] [.int (L_5canPick_38 c pi (nI (1)) j38)] _ [] rfl trivial ?_
        refine AR.eq (tgt := 76) dc_X5_canPick_44 (by decide) (fun c44_24 => ?_) (fun c44_24 => ?_)
        · refine AR.run g_X5_canPick_76_4 38 [some (.ref 16384), some (.int (nI (c))), some (.int (nI (0))), some (.int ((nI (j38)) + (nI (1))))] [] _ [] rfl trivial ?_
          have e25 : L_5canPick_38 c pi (nI (1)) (j38 + 1) = (nI (0)) := by rw [L_5canPick_38, B_5canPick_38, if_pos c44_24]
          exact AR.cast (L' := [some (.ref 16384), some (.int (nI (c))), some (.int (L_5canPick_38 c pi (nI (1)) (j38 + 1))), some (.int (nI (j38 + 1)))]) (by rw [e25, nI_add]) rfl rfl (ih38 (by rw [e25]; first | exact Or.inl rfl | exact Or.inr rfl))
        · refine AR.run g_X5_canPick_47_3 52 [some (.ref 16384), some (.int (nI (c))), some (.int (L_5canPick_38 c pi (nI (1)) j38)), some (.int (nI (j38)))] [.int (nI (c)), .ref 16393] _ [] rfl trivial ?_
          refine AR.ald (n := 0) (e := c) ok_X5_canPick_52 (by first | rfl | (simp only [nI_add, pk_mul]; first | done | rfl)) rfl (by omega) (by first | decide | omega) ?_
          refine AR.run g_X5_canPick_53_1 54 [some (.ref 16384), some (.int (nI (c))), some (.int (L_5canPick_38 c pi (nI (1)) j38)), some (.int (nI (j38)))] [.int (-1), .int (pi c)] _ [] rfl trivial ?_
          refine AR.eq2 (tgt := 72) dc_X5_canPick_54 (by decide) (fun c54_26 => ?_) (fun c54_26 => ?_)
          · refine AR.run g_X5_canPick_72_5 38 [some (.ref 16384), some (.int (nI (c))), some (.int (nI (1))), some (.int ((nI (j38)) + (nI (1))))] [] _ [] rfl trivial ?_
            have e27 : L_5canPick_38 c pi (nI (1)) (j38 + 1) = (nI (1)) := by rw [L_5canPick_38, B_5canPick_38, if_neg c44_24, if_pos c54_26]
            exact AR.cast (L' := [some (.ref 16384), some (.int (nI (c))), some (.int (L_5canPick_38 c pi (nI (1)) (j38 + 1))), some (.int (nI (j38 + 1)))]) (by rw [e27, nI_add]) rfl rfl (ih38 (by rw [e27]; first | exact Or.inl rfl | exact Or.inr rfl))
          · refine AR.run g_X5_canPick_57_3 62 [some (.ref 16384), some (.int (nI (c))), some (.int (L_5canPick_38 c pi (nI (1)) j38)), some (.int (nI (j38)))] [.int (nI (j38)), .ref 16393] _ [] rfl trivial ?_
            refine AR.ald (n := 0) (e := j38) ok_X5_canPick_62 (by first | rfl | (simp only [nI_add, pk_mul]; first | done | rfl)) rfl (by omega) (by first | decide | omega) ?_
            refine AR.run g_X5_canPick_63_3 68 [some (.ref 16384), some (.int (nI (c))), some (.int (L_5canPick_38 c pi (nI (1)) j38)), some (.int (nI (j38)))] [.int (nI (c)), .ref 16393, .int (pi j38)] _ [] rfl trivial ?_
            refine AR.ald (n := 0) (e := c) ok_X5_canPick_68 (by first | rfl | (simp only [nI_add, pk_mul]; first | done | rfl)) rfl (by omega) (by first | decide | omega) ?_
            refine AR.eq2 (tgt := 76) dc_X5_canPick_69 (by decide) (fun c69_28 => ?_) (fun c69_28 => ?_)
            · refine AR.run g_X5_canPick_76_4 38 [some (.ref 16384), some (.int (nI (c))), some (.int (nI (0))), some (.int ((nI (j38)) + (nI (1))))] [] _ [] rfl trivial ?_
              have e29 : L_5canPick_38 c pi (nI (1)) (j38 + 1) = (nI (0)) := by rw [L_5canPick_38, B_5canPick_38, if_neg c44_24, if_neg c54_26, if_pos c69_28]
              exact AR.cast (L' := [some (.ref 16384), some (.int (nI (c))), some (.int (L_5canPick_38 c pi (nI (1)) (j38 + 1))), some (.int (nI (j38 + 1)))]) (by rw [e29, nI_add]) rfl rfl (ih38 (by rw [e29]; first | exact Or.inl rfl | exact Or.inr rfl))
            · refine AR.run g_X5_canPick_72_5 38 [some (.ref 16384), some (.int (nI (c))), some (.int (nI (1))), some (.int ((nI (j38)) + (nI (1))))] [] _ [] rfl trivial ?_
              have e30 : L_5canPick_38 c pi (nI (1)) (j38 + 1) = (nI (1)) := by rw [L_5canPick_38, B_5canPick_38, if_neg c44_24, if_neg c54_26, if_neg c69_28]
              exact AR.cast (L' := [some (.ref 16384), some (.int (nI (c))), some (.int (L_5canPick_38 c pi (nI (1)) (j38 + 1))), some (.int (nI (j38 + 1)))]) (by rw [e30, nI_add]) rfl rfl (ih38 (by rw [e30]; first | exact Or.inl rfl | exact Or.inr rfl))
      · refine AR.run g_X5_canPick_38_2 40 [some (.ref 16384), some (.int (nI (c))), some (.int (L_5canPick_38 c pi (nI (1)) c)), some (.int (nI (c)))] [.int (nI (c)), .int (nI (c))] _ [] rfl trivial ?_
        refine AR.ge2N (tgt := 84) (a := c) (b := c) dc_X5_canPick_40 (by decide) (by first | rfl | (simp only [nI_add, pk_mul]; first | done | rfl)) (by first | rfl | (simp only [nI_add, pk_mul]; first | done | rfl)) (by omega) (by omega) (fun c40_31 => ?_) (fun c40_31 => absurd c40_31 (by omega))
        refine AR.run g_X5_canPick_84_1 85 [some (.ref 16384), some (.int (nI (c))), some (.int (L_5canPick_38 c pi (nI (1)) c)), some (.int (nI (c)))] [.int (L_5canPick_38 c pi (nI (1)) c)] _ [] rfl trivial ?_
        have e32_0 : F_5canPick c ga pi = (L_5canPick_38 c pi (nI (1)) c) := by rw [F_5canPick, if_neg c7_1, if_neg c27_12]
        exact AR.retZ dc_X5_canPick_85 rfl hI38 e32_0.symm rfl
def F_5bestNow (w : Nat) (be : Nat → Int32) (bm : Int32) : Int32 := if w = 0 then bm else (be (w - 1))
theorem g_X5_bestNow_0_1 : ab_oks M_X5_bestNow [(0, .iload_n 1, 1, 1, 0, 0, .null)] = true := by decide +kernel
theorem dc_X5_bestNow_1 : decode (AM.bytes M_X5_bestNow) 1 = .ok (.ifCond .ne 10, 3) := by decide +kernel
theorem g_X5_bestNow_11_5 : ab_oks M_X5_bestNow [(11, .aload_n 0, 1, 0, 0, 0, .null), (12, .getfield 37, 3, 5, 9, 945, .null), (15, .iload_n 1, 1, 1, 0, 0, .null), (16, .iconst 1, 1, 0, 0, 0, .int (nI (1))), (17, .isub, 1, 0, 0, 0, .null)] = true := by decide +kernel
theorem ok_X5_bestNow_18 : ab_ok M_X5_bestNow (18, .iaload, 1, 0, 0, 0, .null) = true := by decide +kernel
theorem dc_X5_bestNow_19 : decode (AM.bytes M_X5_bestNow) 19 = .ok (.ireturn, 1) := by decide +kernel
theorem g_X5_bestNow_4_3 : ab_oks M_X5_bestNow [(4, .aload_n 0, 1, 0, 0, 0, .null), (5, .getfield 212, 3, 5, 10, 946, .null), (8, .goto 11, 3, 19, 0, 0, .null)] = true := by decide +kernel
set_option maxRecDepth 100000 in
set_option maxHeartbeats 4000000 in
theorem s_5bestNow {E : AE} (d : Nat) (w : Nat)  {o0 a0 t0 p0 u0 l0 : List AC} {z sa ro te fr to un ga pi be : Nat → Int32} {bm en sta sv ln th : Int32} {hh : Int64} (hw : w < 5) : CT E M_X5_bestNow d [.ref 16384, .int (nI (w))] (hp o0 a0 t0 p0 (mo z sa ro te fr to un ga pi be bm en sta sv ln th hh) u0 l0) (.inl (some (.int (F_5bestNow w be bm)))) (hp o0 a0 t0 p0 (mo z sa ro te fr to un ga pi be bm en sta sv ln th hh) u0 l0) 0 0 := by
  refine CT.of (L := [some (.ref 16384), some (.int (nI (w)))]) rfl rfl ?_
  refine AR.run g_X5_bestNow_0_1 1 [some (.ref 16384), some (.int (nI (w)))] [.int (nI (w))] _ [] rfl trivial ?_
  refine AR.neN (tgt := 11) (a := w) dc_X5_bestNow_1 (by decide) (by first | rfl | (simp only [nI_add, pk_mul]; first | done | rfl)) (by omega) (fun c1_1 => ?_) (fun c1_1 => ?_)
  · refine AR.run g_X5_bestNow_11_5 18 [some (.ref 16384), some (.int (nI (w)))] [.int ((nI (w)) - (nI (1))), .ref 16394] _ [] rfl trivial ?_
    refine AR.cast (L' := [some (.ref 16384), some (.int (nI (w)))]) (st' := [.int (nI ((w - 1))), .ref 16394]) rfl (by rw [pk_sub (by omega)]) rfl ?_
    refine AR.ald (n := 0) (e := (w - 1)) ok_X5_bestNow_18 (by first | rfl | (simp only [nI_add, pk_mul]; first | done | rfl)) rfl (by omega) (by first | decide | omega) ?_
    have e2_0 : F_5bestNow w be bm = (be (w - 1)) := by rw [F_5bestNow, if_neg (show ¬ (w = 0) from by omega)]
    exact AR.retI dc_X5_bestNow_19 rfl e2_0.symm rfl
  · refine AR.run g_X5_bestNow_4_3 19 [some (.ref 16384), some (.int (nI (w)))] [.int (bm)] _ [] rfl trivial ?_
    have e3_0 : F_5bestNow w be bm = bm := by rw [F_5bestNow, if_pos (show w = 0 from by omega)]
    exact AR.retI dc_X5_bestNow_19 rfl e3_0.symm rfl
def B_5keepPicks_4 (ga : Nat → Int32) (pi : Nat → Int32) (j4 : Nat) (x4_1 : Int32) : (Int32) := if (pi j4) = (-1) then (x4_1 + (nI (0))) else (x4_1 + (ga ((12 * j4) + (pi j4).toNatClampNeg)))
def L_5keepPicks_4 (ga : Nat → Int32) (pi : Nat → Int32) : Nat → (Int32)
  | 0 => nI (0)
  | j + 1 => B_5keepPicks_4 ga pi j (L_5keepPicks_4 ga pi  j)
def W_5keepPicks_50 (ga : Nat → Int32) (pi : Nat → Int32) (bm : Int32) : Nat → Nat → (Nat → Int32) → (Nat → Int32) × (Int32)
  | 0, j50, y50_be => if (L_5keepPicks_4 ga pi 4) ≤ bm then (y50_be, bm) else (y50_be, L_5keepPicks_4 ga pi 4)
  | f50 + 1, j50, y50_be => if (L_5keepPicks_4 ga pi 4) ≤ bm then if (L_5keepPicks_4 ga pi 4) ≤ bm then (y50_be, bm) else (y50_be, L_5keepPicks_4 ga pi 4) else W_5keepPicks_50 ga pi bm f50 (j50 + 1) (upd y50_be j50 (pi j50))
def F_5keepPicks_be (ga : Nat → Int32) (pi : Nat → Int32) (be : Nat → Int32) (bm : Int32) : Nat → Int32 := ((W_5keepPicks_50 ga pi bm 4 0 be).1)
def F_5keepPicks_bm (ga : Nat → Int32) (pi : Nat → Int32) (be : Nat → Int32) (bm : Int32) : Int32 := ((W_5keepPicks_50 ga pi bm 4 0 be).2)
theorem g_X5_keepPicks_0_4 : ab_oks M_X5_keepPicks [(0, .iconst 0, 1, 0, 0, 0, .int (nI (0))), (1, .istore_n 1, 1, 1, 0, 0, .null), (2, .iconst 0, 1, 0, 0, 0, .int (nI (0))), (3, .istore_n 2, 1, 2, 0, 0, .null)] = true := by decide +kernel
theorem g_X5_keepPicks_4_2 : ab_oks M_X5_keepPicks [(4, .iload_n 2, 1, 2, 0, 0, .null), (5, .iconst 4, 1, 0, 0, 0, .int (nI (4)))] = true := by decide +kernel
theorem dc_X5_keepPicks_6 : decode (AM.bytes M_X5_keepPicks) 6 = .ok (.if_icmp .ge 42, 3) := by decide +kernel
theorem g_X5_keepPicks_9_4 : ab_oks M_X5_keepPicks [(9, .iload_n 1, 1, 1, 0, 0, .null), (10, .aload_n 0, 1, 0, 0, 0, .null), (11, .getfield 34, 3, 5, 8, 944, .null), (14, .iload_n 2, 1, 2, 0, 0, .null)] = true := by decide +kernel
theorem ok_X5_keepPicks_15 : ab_ok M_X5_keepPicks (15, .iaload, 1, 0, 0, 0, .null) = true := by decide +kernel
theorem g_X5_keepPicks_16_1 : ab_oks M_X5_keepPicks [(16, .iconst (-1), 1, 0, 0, 0, .int (-1))] = true := by decide +kernel
theorem dc_X5_keepPicks_17 : decode (AM.bytes M_X5_keepPicks) 17 = .ok (.if_icmp .ne 7, 3) := by decide +kernel
theorem g_X5_keepPicks_24_8 : ab_oks M_X5_keepPicks [(24, .aload_n 0, 1, 0, 0, 0, .null), (25, .getfield 31, 3, 5, 7, 943, .null), (28, .bipush 12, 2, 0, 0, 0, .int (nI (12))), (30, .iload_n 2, 1, 2, 0, 0, .null), (31, .imul, 1, 0, 0, 0, .null), (32, .aload_n 0, 1, 0, 0, 0, .null), (33, .getfield 34, 3, 5, 8, 944, .null), (36, .iload_n 2, 1, 2, 0, 0, .null)] = true := by decide +kernel
theorem ok_X5_keepPicks_37 : ab_ok M_X5_keepPicks (37, .iaload, 1, 0, 0, 0, .null) = true := by decide +kernel
theorem g_X5_keepPicks_38_1 : ab_oks M_X5_keepPicks [(38, .iadd, 1, 0, 0, 0, .null)] = true := by decide +kernel
theorem ok_X5_keepPicks_39 : ab_ok M_X5_keepPicks (39, .iaload, 1, 0, 0, 0, .null) = true := by decide +kernel
theorem g_X5_keepPicks_40_4 : ab_oks M_X5_keepPicks [(40, .iadd, 1, 0, 0, 0, .null), (41, .istore_n 1, 1, 1, 0, 0, .null), (42, .iinc 2 1, 3, 2, 0, 0, .int (nI (1))), (45, .goto (-41), 3, 4, 0, 0, .null)] = true := by decide +kernel
theorem g_X5_keepPicks_20_6 : ab_oks M_X5_keepPicks [(20, .iconst 0, 1, 0, 0, 0, .int (nI (0))), (21, .goto 19, 3, 40, 0, 0, .null), (40, .iadd, 1, 0, 0, 0, .null), (41, .istore_n 1, 1, 1, 0, 0, .null), (42, .iinc 2 1, 3, 2, 0, 0, .int (nI (1))), (45, .goto (-41), 3, 4, 0, 0, .null)] = true := by decide +kernel
theorem g_X5_keepPicks_48_2 : ab_oks M_X5_keepPicks [(48, .iconst 0, 1, 0, 0, 0, .int (nI (0))), (49, .istore_n 2, 1, 2, 0, 0, .null)] = true := by decide +kernel
theorem g_X5_keepPicks_50_2 : ab_oks M_X5_keepPicks [(50, .iload_n 2, 1, 2, 0, 0, .null), (51, .iconst 4, 1, 0, 0, 0, .int (nI (4)))] = true := by decide +kernel
theorem dc_X5_keepPicks_52 : decode (AM.bytes M_X5_keepPicks) 52 = .ok (.if_icmp .ge 29, 3) := by decide +kernel
theorem g_X5_keepPicks_81_4 : ab_oks M_X5_keepPicks [(81, .aload_n 0, 1, 0, 0, 0, .null), (82, .iload_n 1, 1, 1, 0, 0, .null), (83, .aload_n 0, 1, 0, 0, 0, .null), (84, .getfield 212, 3, 5, 10, 946, .null)] = true := by decide +kernel
theorem dc_X5_keepPicks_87 : decode (AM.bytes M_X5_keepPicks) 87 = .ok (.if_icmp .le 7, 3) := by decide +kernel
theorem g_X5_keepPicks_94_3 : ab_oks M_X5_keepPicks [(94, .aload_n 0, 1, 0, 0, 0, .null), (95, .getfield 212, 3, 5, 10, 946, .null), (98, .putfield 212, 3, 5, 10, 946, .null)] = true := by decide +kernel
theorem dc_X5_keepPicks_101 : decode (AM.bytes M_X5_keepPicks) 101 = .ok (.return_, 1) := by decide +kernel
theorem g_X5_keepPicks_90_3 : ab_oks M_X5_keepPicks [(90, .iload_n 1, 1, 1, 0, 0, .null), (91, .goto 7, 3, 98, 0, 0, .null), (98, .putfield 212, 3, 5, 10, 946, .null)] = true := by decide +kernel
theorem g_X5_keepPicks_55_3 : ab_oks M_X5_keepPicks [(55, .iload_n 1, 1, 1, 0, 0, .null), (56, .aload_n 0, 1, 0, 0, 0, .null), (57, .getfield 212, 3, 5, 10, 946, .null)] = true := by decide +kernel
theorem dc_X5_keepPicks_60 : decode (AM.bytes M_X5_keepPicks) 60 = .ok (.if_icmp .le 21, 3) := by decide +kernel
theorem g_X5_keepPicks_63_6 : ab_oks M_X5_keepPicks [(63, .aload_n 0, 1, 0, 0, 0, .null), (64, .getfield 37, 3, 5, 9, 945, .null), (67, .iload_n 2, 1, 2, 0, 0, .null), (68, .aload_n 0, 1, 0, 0, 0, .null), (69, .getfield 34, 3, 5, 8, 944, .null), (72, .iload_n 2, 1, 2, 0, 0, .null)] = true := by decide +kernel
theorem ok_X5_keepPicks_73 : ab_ok M_X5_keepPicks (73, .iaload, 1, 0, 0, 0, .null) = true := by decide +kernel
theorem ok_X5_keepPicks_74 : ab_ok M_X5_keepPicks (74, .iastore, 1, 0, 0, 0, .null) = true := by decide +kernel
theorem g_X5_keepPicks_75_2 : ab_oks M_X5_keepPicks [(75, .iinc 2 1, 3, 2, 0, 0, .int (nI (1))), (78, .goto (-28), 3, 50, 0, 0, .null)] = true := by decide +kernel
set_option maxRecDepth 100000 in
set_option maxHeartbeats 4000000 in
theorem s_5keepPicks {E : AE} (d : Nat)  {o0 a0 t0 p0 u0 l0 : List AC} {z sa ro te fr to un ga pi be : Nat → Int32} {bm en sta sv ln th : Int32} {hh : Int64} (hP : ∀ j, j < 4 → QI 12 (pi j)) : CT E M_X5_keepPicks d [.ref 16384] (hp o0 a0 t0 p0 (mo z sa ro te fr to un ga pi be bm en sta sv ln th hh) u0 l0) (.inl none) (hp o0 a0 t0 p0 (mo z sa ro te fr to un ga pi (F_5keepPicks_be ga pi be bm) (F_5keepPicks_bm ga pi be bm) en sta sv ln th hh) u0 l0) 0 0 := by
  refine CT.of (L := [some (.ref 16384), none, none]) rfl rfl ?_
  refine AR.run g_X5_keepPicks_0_4 4 [some (.ref 16384), some (.int (nI (0))), some (.int (nI (0)))] [] _ [] rfl trivial ?_
  refine AR.cast (L' := [some (.ref 16384), some (.int (L_5keepPicks_4 ga pi 0)), some (.int (nI (0)))]) (by first | rfl | (rw [L_5keepPicks_4])) rfl rfl (AR.loopN 4 (fun j4 => [some (.ref 16384), some (.int (L_5keepPicks_4 ga pi j4)), some (.int (nI (j4)))]) (fun j4 => (hp o0 a0 t0 p0 (mo z sa ro te fr to un ga pi be bm en sta sv ln th hh) u0 l0)) (fun j4 => True) (fun j4 hj4 hI4 ih4 => ?_) (fun hI4 => ?_) 0 (by omega) (by first | trivial | omega))
  · refine AR.run g_X5_keepPicks_4_2 6 [some (.ref 16384), some (.int (L_5keepPicks_4 ga pi j4)), some (.int (nI (j4)))] [.int (nI (4)), .int (nI (j4))] _ [] rfl trivial ?_
    refine AR.ge2N (tgt := 48) (a := j4) (b := 4) dc_X5_keepPicks_6 (by decide) (by first | rfl | (simp only [nI_add, pk_mul]; first | done | rfl)) (by first | rfl | (simp only [nI_add, pk_mul]; first | done | rfl)) (by omega) (by omega) (fun c6_1 => absurd c6_1 (by omega)) (fun c6_1 => ?_)
    refine AR.run g_X5_keepPicks_9_4 15 [some (.ref 16384), some (.int (L_5keepPicks_4 ga pi j4)), some (.int (nI (j4)))] [.int (nI (j4)), .ref 16393, .int (L_5keepPicks_4 ga pi j4)] _ [] rfl trivial ?_
    refine AR.ald (n := 0) (e := j4) ok_X5_keepPicks_15 (by first | rfl | (simp only [nI_add, pk_mul]; first | done | rfl)) rfl (by omega) (by first | decide | omega) ?_
    refine AR.run g_X5_keepPicks_16_1 17 [some (.ref 16384), some (.int (L_5keepPicks_4 ga pi j4)), some (.int (nI (j4)))] [.int (-1), .int (pi j4), .int (L_5keepPicks_4 ga pi j4)] _ [] rfl trivial ?_
    refine AR.ne2 (tgt := 24) dc_X5_keepPicks_17 (by decide) (fun c17_2 => ?_) (fun c17_2 => ?_)
    · refine AR.run g_X5_keepPicks_24_8 37 [some (.ref 16384), some (.int (L_5keepPicks_4 ga pi j4)), some (.int (nI (j4)))] [.int (nI (j4)), .ref 16393, .int ((nI (12)) * (nI (j4))), .ref 16392, .int (L_5keepPicks_4 ga pi j4)] _ [] rfl trivial ?_
      refine AR.ald (n := 0) (e := j4) ok_X5_keepPicks_37 (by first | rfl | (simp only [nI_add, pk_mul]; first | done | rfl)) rfl (by omega) (by first | decide | omega) ?_
      obtain ⟨hx9, hy9⟩ := QI_get (by omega) (hP _ (by omega)) (by assumption)
      refine AR.cast (st' := [.int (nI ((pi j4).toNatClampNeg)), .int ((nI (12)) * (nI (j4))), .ref 16392, .int (L_5keepPicks_4 ga pi j4)]) rfl (by rw [← hx9]) rfl ?_
      refine AR.run g_X5_keepPicks_38_1 39 [some (.ref 16384), some (.int (L_5keepPicks_4 ga pi j4)), some (.int (nI (j4)))] [.int (((nI (12)) * (nI (j4))) + (nI ((pi j4).toNatClampNeg))), .ref 16392, .int (L_5keepPicks_4 ga pi j4)] _ [] rfl trivial ?_
      refine AR.ald (n := 0) (e := ((12 * j4) + (pi j4).toNatClampNeg)) ok_X5_keepPicks_39 (by first | rfl | (simp only [nI_add, pk_mul]; first | done | rfl)) rfl (by omega) (by first | decide | omega) ?_
      refine AR.run g_X5_keepPicks_40_4 4 [some (.ref 16384), some (.int ((L_5keepPicks_4 ga pi j4) + (ga ((12 * j4) + (pi j4).toNatClampNeg)))), some (.int ((nI (j4)) + (nI (1))))] [] _ [] rfl trivial ?_
      have e3 : L_5keepPicks_4 ga pi (j4 + 1) = ((L_5keepPicks_4 ga pi j4) + (ga ((12 * j4) + (pi j4).toNatClampNeg))) := by rw [L_5keepPicks_4, B_5keepPicks_4, if_neg c17_2]
      exact AR.cast (L' := [some (.ref 16384), some (.int (L_5keepPicks_4 ga pi (j4 + 1))), some (.int (nI (j4 + 1)))]) (by rw [e3, nI_add]) rfl rfl (ih4 (by first | trivial | omega))
    · refine AR.run g_X5_keepPicks_20_6 4 [some (.ref 16384), some (.int ((L_5keepPicks_4 ga pi j4) + (nI (0)))), some (.int ((nI (j4)) + (nI (1))))] [] _ [] rfl trivial ?_
      have e4 : L_5keepPicks_4 ga pi (j4 + 1) = ((L_5keepPicks_4 ga pi j4) + (nI (0))) := by rw [L_5keepPicks_4, B_5keepPicks_4, if_pos c17_2]
      exact AR.cast (L' := [some (.ref 16384), some (.int (L_5keepPicks_4 ga pi (j4 + 1))), some (.int (nI (j4 + 1)))]) (by rw [e4, nI_add]) rfl rfl (ih4 (by first | trivial | omega))
  · refine AR.run g_X5_keepPicks_4_2 6 [some (.ref 16384), some (.int (L_5keepPicks_4 ga pi 4)), some (.int (nI (4)))] [.int (nI (4)), .int (nI (4))] _ [] rfl trivial ?_
    refine AR.ge2N (tgt := 48) (a := 4) (b := 4) dc_X5_keepPicks_6 (by decide) (by first | rfl | (simp only [nI_add, pk_mul]; first | done | rfl)) (by first | rfl | (simp only [nI_add, pk_mul]; first | done | rfl)) (by omega) (by omega) (fun c6_5 => ?_) (fun c6_5 => absurd c6_5 (by omega))
    refine AR.run g_X5_keepPicks_48_2 50 [some (.ref 16384), some (.int (L_5keepPicks_4 ga pi 4)), some (.int (nI (0)))] [] _ [] rfl trivial ?_
    have hW : ∀ (f50 j50 : Nat) (y50_be : Nat → Int32), j50 + f50 = 4 → AR E M_X5_keepPicks d 50 [some (.ref 16384), some (.int (L_5keepPicks_4 ga pi 4)), some (.int (nI (j50)))] [] (hp o0 a0 t0 p0 (mo z sa ro te fr to un ga pi y50_be bm en sta sv ln th hh) u0 l0) (.inl none) (hp o0 a0 t0 p0 (mo z sa ro te fr to un ga pi ((W_5keepPicks_50 ga pi bm f50 j50 y50_be).1) ((W_5keepPicks_50 ga pi bm f50 j50 y50_be).2) en sta sv ln th hh) u0 l0) 0 0 := by
      intro f50
      induction f50 with
      | zero => 
        intro j50 y50_be hj50
        refine AR.run g_X5_keepPicks_50_2 52 [some (.ref 16384), some (.int (L_5keepPicks_4 ga pi 4)), some (.int (nI (j50)))] [.int (nI (4)), .int (nI (j50))] _ [] rfl trivial ?_
        refine AR.ge2N (tgt := 81) (a := j50) (b := 4) dc_X5_keepPicks_52 (by decide) (by first | rfl | (simp only [nI_add, pk_mul]; first | done | rfl)) (by first | rfl | (simp only [nI_add, pk_mul]; first | done | rfl)) (by omega) (by omega) (fun c52_6 => ?_) (fun c52_6 => absurd c52_6 (by omega))
        refine AR.run g_X5_keepPicks_81_4 87 [some (.ref 16384), some (.int (L_5keepPicks_4 ga pi 4)), some (.int (nI (j50)))] [.int (bm), .int (L_5keepPicks_4 ga pi 4), .ref 16384] _ [] rfl trivial ?_
        refine AR.le2 (tgt := 94) dc_X5_keepPicks_87 (by decide) (fun c87_7 => ?_) (fun c87_7 => ?_)
        · refine AR.run g_X5_keepPicks_94_3 101 [some (.ref 16384), some (.int (L_5keepPicks_4 ga pi 4)), some (.int (nI (j50)))] [] (hp o0 a0 t0 p0 (mo z sa ro te fr to un ga pi y50_be bm en sta sv ln th hh) u0 l0) [] rfl trivial ?_
          have e8 : W_5keepPicks_50 ga pi bm 0 j50 y50_be = (y50_be, bm) := by rw [W_5keepPicks_50, if_pos c87_7]
          rw [e8]
          exact AR.retV dc_X5_keepPicks_101 rfl rfl
        · refine AR.run g_X5_keepPicks_90_3 101 [some (.ref 16384), some (.int (L_5keepPicks_4 ga pi 4)), some (.int (nI (j50)))] [] (hp o0 a0 t0 p0 (mo z sa ro te fr to un ga pi y50_be (L_5keepPicks_4 ga pi 4) en sta sv ln th hh) u0 l0) [] rfl trivial ?_
          have e9 : W_5keepPicks_50 ga pi bm 0 j50 y50_be = (y50_be, L_5keepPicks_4 ga pi 4) := by rw [W_5keepPicks_50, if_neg c87_7]
          rw [e9]
          exact AR.retV dc_X5_keepPicks_101 rfl rfl
      | succ f50 ih50 => 
        intro j50 y50_be hj50
        refine AR.run g_X5_keepPicks_50_2 52 [some (.ref 16384), some (.int (L_5keepPicks_4 ga pi 4)), some (.int (nI (j50)))] [.int (nI (4)), .int (nI (j50))] _ [] rfl trivial ?_
        refine AR.ge2N (tgt := 81) (a := j50) (b := 4) dc_X5_keepPicks_52 (by decide) (by first | rfl | (simp only [nI_add, pk_mul]; first | done | rfl)) (by first | rfl | (simp only [nI_add, pk_mul]; first | done | rfl)) (by omega) (by omega) (fun c52_10 => absurd c52_10 (by omega)) (fun c52_10 => ?_)
        refine AR.run g_X5_keepPicks_55_3 60 [some (.ref 16384), some (.int (L_5keepPicks_4 ga pi 4)), some (.int (nI (j50)))] [.int (bm), .int (L_5keepPicks_4 ga pi 4)] _ [] rfl trivial ?_
        refine AR.le2 (tgt := 81) dc_X5_keepPicks_60 (by decide) (fun c60_11 => ?_) (fun c60_11 => ?_)
        · refine AR.run g_X5_keepPicks_81_4 87 [some (.ref 16384), some (.int (L_5keepPicks_4 ga pi 4)), some (.int (nI (j50)))] [.int (bm), .int (L_5keepPicks_4 ga pi 4), .ref 16384] _ [] rfl trivial ?_
          refine AR.le2 (tgt := 94) dc_X5_keepPicks_87 (by decide) (fun c87_12 => ?_) (fun c87_12 => ?_)
          · refine AR.run g_X5_keepPicks_94_3 101 [some (.ref 16384), some (.int (L_5keepPicks_4 ga pi 4)), some (.int (nI (j50)))] [] (hp o0 a0 t0 p0 (mo z sa ro te fr to un ga pi y50_be bm en sta sv ln th hh) u0 l0) [] rfl trivial ?_
            have e13 : W_5keepPicks_50 ga pi bm (f50 + 1) j50 y50_be = (y50_be, bm) := by rw [W_5keepPicks_50, if_pos c60_11, if_pos c87_12]
            rw [e13]
            exact AR.retV dc_X5_keepPicks_101 rfl rfl
          · refine AR.run g_X5_keepPicks_90_3 101 [some (.ref 16384), some (.int (L_5keepPicks_4 ga pi 4)), some (.int (nI (j50)))] [] (hp o0 a0 t0 p0 (mo z sa ro te fr to un ga pi y50_be (L_5keepPicks_4 ga pi 4) en sta sv ln th hh) u0 l0) [] rfl trivial ?_
            have e14 : W_5keepPicks_50 ga pi bm (f50 + 1) j50 y50_be = (y50_be, L_5keepPicks_4 ga pi 4) := by rw [W_5keepPicks_50, if_pos c60_11, if_neg c87_12]
            rw [e14]
            exact AR.retV dc_X5_keepPicks_101 rfl rfl
        · refine AR.run g_X5_keepPicks_63_6 73 [some (.ref 16384), some (.int (L_5keepPicks_4 ga pi 4)), some (.int (nI (j50)))] [.int (nI (j50)), .ref 16393, .int (nI (j50)), .ref 16394] _ [] rfl trivial ?_
          refine AR.ald (n := 0) (e := j50) ok_X5_keepPicks_73 (by first | rfl | (simp only [nI_add, pk_mul]; first | done | rfl)) rfl (by omega) (by first | decide | omega) ?_
          refine AR.ast (n := 0) (e := j50) (h1 := (hp o0 a0 t0 p0 (mo z sa ro te fr to un ga pi (upd y50_be j50 (pi j50)) bm en sta sv ln th hh) u0 l0)) ok_X5_keepPicks_74 (by first | rfl | (simp only [nI_add, pk_mul]; first | done | rfl)) rfl rfl (by omega) (by decide) rfl ?_
          refine AR.run g_X5_keepPicks_75_2 50 [some (.ref 16384), some (.int (L_5keepPicks_4 ga pi 4)), some (.int ((nI (j50)) + (nI (1))))] [] _ [] rfl trivial ?_
          have e15 : W_5keepPicks_50 ga pi bm (f50 + 1) j50 y50_be = W_5keepPicks_50 ga pi bm f50 (j50 + 1) (upd y50_be j50 (pi j50)) := by rw [W_5keepPicks_50, if_neg c60_11]
          rw [e15]
          exact AR.cast (L' := [some (.ref 16384), some (.int (L_5keepPicks_4 ga pi 4)), some (.int (nI (j50 + 1)))]) (by first | rfl | rw [nI_add]) rfl rfl (ih50 (j50 + 1) (upd y50_be j50 (pi j50)) (by omega) )
    have e17_0 : F_5keepPicks_be ga pi be bm = ((W_5keepPicks_50 ga pi bm 4 0 be).1) := by rw [F_5keepPicks_be]
    have e17_1 : F_5keepPicks_bm ga pi be bm = ((W_5keepPicks_50 ga pi bm 4 0 be).2) := by rw [F_5keepPicks_bm]
    exact AR.end' rfl (by first | rfl | (rw [e17_0, e17_1])) (AR.cast rfl rfl rfl (hW 4 0 be (by omega)))
def F_5openNow (nv : Nat) (nc : Nat) (z : Nat → Int32) (sv : Int32) : UInt64 := if (F_5counted 6 nv nc z sv) = 0 then (FP.dconst0) else (FP.ddiv (FP.i2d (F_5counted 9 nv nc z sv)) (FP.i2d (F_5counted 6 nv nc z sv)))
theorem g_X5_openNow_0_2 : ab_oks M_X5_openNow [(0, .aload_n 0, 1, 0, 0, 0, .null), (1, .bipush 6, 2, 0, 0, 0, .int (nI (6)))] = true := by decide +kernel
theorem lk_5_179 : ab_lkV "LeafCradlesModel" 179 M_X5_counted 1 [1219, 1221, 68, 97, 1222] = true := by decide +kernel
theorem dc_X5_openNow_3 : decode (AM.bytes M_X5_openNow) 3 = .ok (.invokevirtual 179, 3) := by decide +kernel
theorem g_X5_openNow_6_2 : ab_oks M_X5_openNow [(6, .istore_n 1, 1, 1, 0, 0, .null), (7, .iload_n 1, 1, 1, 0, 0, .null)] = true := by decide +kernel
theorem dc_X5_openNow_8 : decode (AM.bytes M_X5_openNow) 8 = .ok (.ifCond .ne 7, 3) := by decide +kernel
theorem g_X5_openNow_15_2 : ab_oks M_X5_openNow [(15, .aload_n 0, 1, 0, 0, 0, .null), (16, .bipush 9, 2, 0, 0, 0, .int (nI (9)))] = true := by decide +kernel
theorem dc_X5_openNow_18 : decode (AM.bytes M_X5_openNow) 18 = .ok (.invokevirtual 179, 3) := by decide +kernel
theorem g_X5_openNow_21_3 : ab_oks M_X5_openNow [(21, .i2d, 1, 0, 0, 0, .null), (22, .iload_n 1, 1, 1, 0, 0, .null), (23, .i2d, 1, 0, 0, 0, .null)] = true := by decide +kernel
theorem g_X5_openNow_24_1 : ab_oks M_X5_openNow [(24, .ddiv, 1, 0, 0, 0, .null)] = true := by decide +kernel
theorem dc_X5_openNow_25 : decode (AM.bytes M_X5_openNow) 25 = .ok (.dreturn, 1) := by decide +kernel
theorem g_X5_openNow_11_2 : ab_oks M_X5_openNow [(11, .dconst 0, 1, 0, 0, 0, .double (FP.dconst0)), (12, .goto 13, 3, 25, 0, 0, .null)] = true := by decide +kernel
set_option maxRecDepth 100000 in
set_option maxHeartbeats 4000000 in
theorem s_5openNow {E : AE} (d : Nat) {nv : Nat} {nc : Nat} {nr : Nat} {ne : Nat}  {o0 a0 t0 p0 u0 l0 : List AC} {z sa ro te fr to un ga pi be : Nat → Int32} {bm en sta sv ln th : Int32} {hh : Int64} (hZ : ZI z nv nc nr ne) (hnan : ¬ F_5counted 6 nv nc z sv = 0 → vf_n64 (FP.ddiv (FP.i2d (F_5counted 9 nv nc z sv)) (FP.i2d (F_5counted 6 nv nc z sv)))) : CT E M_X5_openNow (d + 6) [.ref 16384] (hp o0 a0 t0 p0 (mo z sa ro te fr to un ga pi be bm en sta sv ln th hh) u0 l0) (.inl (some (.double (F_5openNow nv nc z sv)))) (hp o0 a0 t0 p0 (mo z sa ro te fr to un ga pi be bm en sta sv ln th hh) u0 l0) 0 0 := by
  obtain ⟨⟨hnv, h12⟩, ⟨hnc, h4⟩, ⟨hnr, h3⟩, ⟨hne, h60⟩, hLV⟩ := id hZ
  refine CT.of (L := [some (.ref 16384), none]) rfl rfl ?_
  refine AR.run g_X5_openNow_0_2 3 [some (.ref 16384), none] [.int (nI (6)), .ref 16384] _ [] rfl trivial ?_
  refine AR.callV1 (16384) [.int (nI (6))] [] lk_5_179 dc_X5_openNow_3 rfl rfl (s_5counted _ 6 (by assumption) (by omega)) (by first | rfl | (simp only [nI_add, pk_mul]; first | done | rfl)) rfl ?_
  refine AR.run g_X5_openNow_6_2 8 [some (.ref 16384), some (.int (F_5counted 6 nv nc z sv))] [.int (F_5counted 6 nv nc z sv)] _ [] rfl trivial ?_
  refine AR.ne (tgt := 15) dc_X5_openNow_8 (by decide) (fun c8_1 => ?_) (fun c8_1 => ?_)
  · refine AR.run g_X5_openNow_15_2 18 [some (.ref 16384), some (.int (F_5counted 6 nv nc z sv))] [.int (nI (9)), .ref 16384] _ [] rfl trivial ?_
    refine AR.callV1 (16384) [.int (nI (9))] [] lk_5_179 dc_X5_openNow_18 rfl rfl (s_5counted _ 9 (by assumption) (by omega)) (by first | rfl | (simp only [nI_add, pk_mul]; first | done | rfl)) rfl ?_
    refine AR.run g_X5_openNow_21_3 24 [some (.ref 16384), some (.int (F_5counted 6 nv nc z sv))] [.double (FP.i2d (F_5counted 6 nv nc z sv)), .double (FP.i2d (F_5counted 9 nv nc z sv))] _ [] rfl trivial ?_
    refine AR.run g_X5_openNow_24_1 25 [some (.ref 16384), some (.int (F_5counted 6 nv nc z sv))] [.double (FP.ddiv (FP.i2d (F_5counted 9 nv nc z sv)) (FP.i2d (F_5counted 6 nv nc z sv)))] _ [vf_n64 (FP.ddiv (FP.i2d (F_5counted 9 nv nc z sv)) (FP.i2d (F_5counted 6 nv nc z sv)))] rfl (show vf_n64 (FP.ddiv (FP.i2d (F_5counted 9 nv nc z sv)) (FP.i2d (F_5counted 6 nv nc z sv))) from by first | assumption | exact hnan (by assumption)) ?_
    have e2_0 : F_5openNow nv nc z sv = (FP.ddiv (FP.i2d (F_5counted 9 nv nc z sv)) (FP.i2d (F_5counted 6 nv nc z sv))) := by rw [F_5openNow, if_neg c8_1]
    exact AR.retD dc_X5_openNow_25 rfl e2_0.symm rfl
  · refine AR.run g_X5_openNow_11_2 25 [some (.ref 16384), some (.int (F_5counted 6 nv nc z sv))] [.double (FP.dconst0)] _ [] rfl trivial ?_
    have e3_0 : F_5openNow nv nc z sv = (FP.dconst0) := by rw [F_5openNow, if_pos c8_1]
    exact AR.retD dc_X5_openNow_25 rfl e3_0.symm rfl
def F_5mix_hh (v : Int64) (hh : Int64) : Int64 := ((31 * hh) + v)
theorem g_X5_mix_0_8 : ab_oks M_X5_mix [(0, .aload_n 0, 1, 0, 0, 0, .null), (1, .ldc2_w 235, 3, 0, 0, 1332, .long (31)), (4, .aload_n 0, 1, 0, 0, 0, .null), (5, .getfield 237, 3, 5, 16, 952, .null), (8, .lmul, 1, 0, 0, 0, .null), (9, .lload_n 1, 1, 1, 0, 0, .null), (10, .ladd, 1, 0, 0, 0, .null), (11, .putfield 237, 3, 5, 16, 952, .null)] = true := by decide +kernel
theorem dc_X5_mix_14 : decode (AM.bytes M_X5_mix) 14 = .ok (.return_, 1) := by decide +kernel
set_option maxRecDepth 100000 in
set_option maxHeartbeats 4000000 in
theorem s_5mix {E : AE} (d : Nat) (v : Int64)  {o0 a0 t0 p0 u0 l0 : List AC} {z sa ro te fr to un ga pi be : Nat → Int32} {bm en sta sv ln th : Int32} {hh : Int64} : CT E M_X5_mix d [.ref 16384, .long (v)] (hp o0 a0 t0 p0 (mo z sa ro te fr to un ga pi be bm en sta sv ln th hh) u0 l0) (.inl none) (hp o0 a0 t0 p0 (mo z sa ro te fr to un ga pi be bm en sta sv ln th (F_5mix_hh v hh)) u0 l0) 0 0 := by
  refine CT.of (L := [some (.ref 16384), some (.long (v)), none]) rfl rfl ?_
  refine AR.run g_X5_mix_0_8 14 [some (.ref 16384), some (.long (v)), none] [] (hp o0 a0 t0 p0 (mo z sa ro te fr to un ga pi be bm en sta sv ln th ((31 * hh) + v)) u0 l0) [] rfl trivial ?_
  have e1_0 : F_5mix_hh v hh = ((31 * hh) + v) := by rw [F_5mix_hh]
  exact AR.retV dc_X5_mix_14 rfl (by rw [e1_0])
def B_5mixVolume_2 (v : Nat) (z : Nat → Int32) (j2 : Nat) (y2_hh : Int64) : (Int64) := (F_5mix_hh ((F_5volumeNow v j2 z).toInt64) y2_hh)
def L_5mixVolume_2 (v : Nat) (z : Nat → Int32) (hh : Int64) : Nat → (Int64)
  | 0 => hh
  | j + 1 => B_5mixVolume_2 v z j (L_5mixVolume_2 v z hh  j)
def B_5mixVolume_27 (v : Nat) (z : Nat → Int32) (j27 : Nat) (y27_hh : Int64) : (Int64) := (F_5mix_hh ((F_5leafNow v (j27 / 4) (j27 % 4) z).toInt64) y27_hh)
def L_5mixVolume_27 (v : Nat) (z : Nat → Int32) (hh : Int64) : Nat → (Int64)
  | 0 => L_5mixVolume_2 v z hh 12
  | j + 1 => B_5mixVolume_27 v z j (L_5mixVolume_27 v z hh  j)
def F_5mixVolume_hh (v : Nat) (nr : Nat) (ne : Nat) (z : Nat → Int32) (hh : Int64) : Int64 := (F_5mix_hh ((L_5quickestNow_4 v z nr).toInt64) (F_5mix_hh ((L_5whereNow_5 (nI (v)) (z 3) z ne).toInt64) (L_5mixVolume_27 v z hh (4 * lv z v))))
theorem g_X5_mixVolume_0_2 : ab_oks M_X5_mixVolume [(0, .iconst 0, 1, 0, 0, 0, .int (nI (0))), (1, .istore_n 2, 1, 2, 0, 0, .null)] = true := by decide +kernel
theorem g_X5_mixVolume_2_2 : ab_oks M_X5_mixVolume [(2, .iload_n 2, 1, 2, 0, 0, .null), (3, .bipush 12, 2, 0, 0, 0, .int (nI (12)))] = true := by decide +kernel
theorem dc_X5_mixVolume_5 : decode (AM.bytes M_X5_mixVolume) 5 = .ok (.if_icmp .ge 20, 3) := by decide +kernel
theorem g_X5_mixVolume_8_4 : ab_oks M_X5_mixVolume [(8, .aload_n 0, 1, 0, 0, 0, .null), (9, .aload_n 0, 1, 0, 0, 0, .null), (10, .iload_n 1, 1, 1, 0, 0, .null), (11, .iload_n 2, 1, 2, 0, 0, .null)] = true := by decide +kernel
theorem dc_X5_mixVolume_12 : decode (AM.bytes M_X5_mixVolume) 12 = .ok (.invokevirtual 161, 3) := by decide +kernel
theorem g_X5_mixVolume_15_1 : ab_oks M_X5_mixVolume [(15, .i2l, 1, 0, 0, 0, .null)] = true := by decide +kernel
theorem lk_5_241 : ab_lkV "LeafCradlesModel" 241 M_X5_mix 1 [1328, 1330, 87, 97, 1331] = true := by decide +kernel
theorem dc_X5_mixVolume_16 : decode (AM.bytes M_X5_mixVolume) 16 = .ok (.invokevirtual 241, 3) := by decide +kernel
theorem g_X5_mixVolume_19_2 : ab_oks M_X5_mixVolume [(19, .iinc 2 1, 3, 2, 0, 0, .int (nI (1))), (22, .goto (-20), 3, 2, 0, 0, .null)] = true := by decide +kernel
theorem g_X5_mixVolume_25_2 : ab_oks M_X5_mixVolume [(25, .iconst 0, 1, 0, 0, 0, .int (nI (0))), (26, .istore_n 2, 1, 2, 0, 0, .null)] = true := by decide +kernel
theorem g_X5_mixVolume_27_5 : ab_oks M_X5_mixVolume [(27, .iload_n 2, 1, 2, 0, 0, .null), (28, .iconst 4, 1, 0, 0, 0, .int (nI (4))), (29, .aload_n 0, 1, 0, 0, 0, .null), (30, .iload_n 1, 1, 1, 0, 0, .null), (31, .iconst 2, 1, 0, 0, 0, .int (nI (2)))] = true := by decide +kernel
theorem dc_X5_mixVolume_32 : decode (AM.bytes M_X5_mixVolume) 32 = .ok (.invokevirtual 62, 3) := by decide +kernel
theorem g_X5_mixVolume_35_1 : ab_oks M_X5_mixVolume [(35, .imul, 1, 0, 0, 0, .null)] = true := by decide +kernel
theorem dc_X5_mixVolume_36 : decode (AM.bytes M_X5_mixVolume) 36 = .ok (.if_icmp .ge 25, 3) := by decide +kernel
theorem g_X5_mixVolume_39_5 : ab_oks M_X5_mixVolume [(39, .aload_n 0, 1, 0, 0, 0, .null), (40, .aload_n 0, 1, 0, 0, 0, .null), (41, .iload_n 1, 1, 1, 0, 0, .null), (42, .iload_n 2, 1, 2, 0, 0, .null), (43, .iconst 4, 1, 0, 0, 0, .int (nI (4)))] = true := by decide +kernel
theorem g_X5_mixVolume_44_1 : ab_oks M_X5_mixVolume [(44, .idiv, 1, 0, 0, 0, .null)] = true := by decide +kernel
theorem g_X5_mixVolume_45_2 : ab_oks M_X5_mixVolume [(45, .iload_n 2, 1, 2, 0, 0, .null), (46, .iconst 4, 1, 0, 0, 0, .int (nI (4)))] = true := by decide +kernel
theorem g_X5_mixVolume_47_1 : ab_oks M_X5_mixVolume [(47, .irem, 1, 0, 0, 0, .null)] = true := by decide +kernel
theorem lk_5_164 : ab_lkV "LeafCradlesModel" 164 M_X5_leafNow 3 [1187, 1189, 65, 97, 1190] = true := by decide +kernel
theorem dc_X5_mixVolume_48 : decode (AM.bytes M_X5_mixVolume) 48 = .ok (.invokevirtual 164, 3) := by decide +kernel
theorem g_X5_mixVolume_51_1 : ab_oks M_X5_mixVolume [(51, .i2l, 1, 0, 0, 0, .null)] = true := by decide +kernel
theorem dc_X5_mixVolume_52 : decode (AM.bytes M_X5_mixVolume) 52 = .ok (.invokevirtual 241, 3) := by decide +kernel
theorem g_X5_mixVolume_55_2 : ab_oks M_X5_mixVolume [(55, .iinc 2 1, 3, 2, 0, 0, .int (nI (1))), (58, .goto (-31), 3, 27, 0, 0, .null)] = true := by decide +kernel
theorem g_X5_mixVolume_61_6 : ab_oks M_X5_mixVolume [(61, .aload_n 0, 1, 0, 0, 0, .null), (62, .aload_n 0, 1, 0, 0, 0, .null), (63, .iload_n 1, 1, 1, 0, 0, .null), (64, .aload_n 0, 1, 0, 0, 0, .null), (65, .getfield 7, 3, 5, 0, 936, .null), (68, .iconst 3, 1, 0, 0, 0, .int (nI (3)))] = true := by decide +kernel
theorem ok_X5_mixVolume_69 : ab_ok M_X5_mixVolume (69, .iaload, 1, 0, 0, 0, .null) = true := by decide +kernel
theorem lk_5_170 : ab_lkV "LeafCradlesModel" 170 M_X5_whereNow 2 [1211, 1213, 67, 97, 1214] = true := by decide +kernel
theorem dc_X5_mixVolume_70 : decode (AM.bytes M_X5_mixVolume) 70 = .ok (.invokevirtual 170, 3) := by decide +kernel
theorem g_X5_mixVolume_73_1 : ab_oks M_X5_mixVolume [(73, .i2l, 1, 0, 0, 0, .null)] = true := by decide +kernel
theorem dc_X5_mixVolume_74 : decode (AM.bytes M_X5_mixVolume) 74 = .ok (.invokevirtual 241, 3) := by decide +kernel
theorem g_X5_mixVolume_77_3 : ab_oks M_X5_mixVolume [(77, .aload_n 0, 1, 0, 0, 0, .null), (78, .aload_n 0, 1, 0, 0, 0, .null), (79, .iload_n 1, 1, 1, 0, 0, .null)] = true := by decide +kernel
theorem lk_5_200 : ab_lkV "LeafCradlesModel" 200 M_X5_quickestNow 1 [1275, 1277, 77, 97, 1278] = true := by decide +kernel
theorem dc_X5_mixVolume_80 : decode (AM.bytes M_X5_mixVolume) 80 = .ok (.invokevirtual 200, 3) := by decide +kernel
theorem g_X5_mixVolume_83_1 : ab_oks M_X5_mixVolume [(83, .i2l, 1, 0, 0, 0, .null)] = true := by decide +kernel
theorem dc_X5_mixVolume_84 : decode (AM.bytes M_X5_mixVolume) 84 = .ok (.invokevirtual 241, 3) := by decide +kernel
theorem dc_X5_mixVolume_87 : decode (AM.bytes M_X5_mixVolume) 87 = .ok (.return_, 1) := by decide +kernel
set_option maxRecDepth 100000 in
set_option maxHeartbeats 4000000 in
theorem s_5mixVolume {E : AE} (d : Nat) (v : Nat) {nv : Nat} {nc : Nat} {nr : Nat} {ne : Nat}  {o0 a0 t0 p0 u0 l0 : List AC} {z sa ro te fr to un ga pi be : Nat → Int32} {bm en sta sv ln th : Int32} {hh : Int64} (hZ : ZI z nv nc nr ne) (hv : v < nv) : CT E M_X5_mixVolume (d + 4) [.ref 16384, .int (nI (v))] (hp o0 a0 t0 p0 (mo z sa ro te fr to un ga pi be bm en sta sv ln th hh) u0 l0) (.inl none) (hp o0 a0 t0 p0 (mo z sa ro te fr to un ga pi be bm en sta sv ln th (F_5mixVolume_hh v nr ne z hh)) u0 l0) 0 0 := by
  obtain ⟨⟨hnv, h12⟩, ⟨hnc, h4⟩, ⟨hnr, h3⟩, ⟨hne, h60⟩, hLV⟩ := id hZ
  have hl := (hLV v hv).1
  have h40 := (hLV v hv).2
  refine CT.of (L := [some (.ref 16384), some (.int (nI (v))), none]) rfl rfl ?_
  refine AR.run g_X5_mixVolume_0_2 2 [some (.ref 16384), some (.int (nI (v))), some (.int (nI (0)))] [] _ [] rfl trivial ?_
  refine AR.cast (L' := [some (.ref 16384), some (.int (nI (v))), some (.int (nI (0)))]) (by first | rfl | (rw [L_5mixVolume_2])) rfl (by first | rfl | (rw [L_5mixVolume_2])) (AR.loopN 12 (fun j2 => [some (.ref 16384), some (.int (nI (v))), some (.int (nI (j2)))]) (fun j2 => (hp o0 a0 t0 p0 (mo z sa ro te fr to un ga pi be bm en sta sv ln th (L_5mixVolume_2 v z hh j2)) u0 l0)) (fun j2 => True) (fun j2 hj2 hI2 ih2 => ?_) (fun hI2 => ?_) 0 (by omega) (by first | trivial | omega))
  · refine AR.run g_X5_mixVolume_2_2 5 [some (.ref 16384), some (.int (nI (v))), some (.int (nI (j2)))] [.int (nI (12)), .int (nI (j2))] _ [] rfl trivial ?_
    refine AR.ge2N (tgt := 25) (a := j2) (b := 12) dc_X5_mixVolume_5 (by decide) (by first | rfl | (simp only [nI_add, pk_mul]; first | done | rfl)) (by first | rfl | (simp only [nI_add, pk_mul]; first | done | rfl)) (by omega) (by omega) (fun c5_1 => absurd c5_1 (by omega)) (fun c5_1 => ?_)
    refine AR.run g_X5_mixVolume_8_4 12 [some (.ref 16384), some (.int (nI (v))), some (.int (nI (j2)))] [.int (nI (j2)), .int (nI (v)), .ref 16384, .ref 16384] _ [] rfl trivial ?_
    refine AR.callV1 (16384) [.int (nI (v)), .int (nI (j2))] [.ref 16384] lk_5_161 dc_X5_mixVolume_12 rfl rfl (s_5volumeNow _ v j2 (by omega) (by first | assumption | exact (hLV v (by omega)).1) (by first | assumption | exact (hLV v (by omega)).2) (by omega)) (by first | rfl | (simp only [nI_add, pk_mul]; first | done | rfl)) rfl ?_
    refine AR.run g_X5_mixVolume_15_1 16 [some (.ref 16384), some (.int (nI (v))), some (.int (nI (j2)))] [.long ((F_5volumeNow v j2 z).toInt64), .ref 16384] _ [] rfl trivial ?_
    refine AR.callV0 (16384) [.long ((F_5volumeNow v j2 z).toInt64)] [] lk_5_241 dc_X5_mixVolume_16 rfl rfl (s_5mix _ ((F_5volumeNow v j2 z).toInt64) ) (by first | rfl | (simp only [nI_add, pk_mul]; first | done | rfl)) rfl ?_
    refine AR.run g_X5_mixVolume_19_2 2 [some (.ref 16384), some (.int (nI (v))), some (.int ((nI (j2)) + (nI (1))))] [] _ [] rfl trivial ?_
    have e2 : L_5mixVolume_2 v z hh (j2 + 1) = (F_5mix_hh ((F_5volumeNow v j2 z).toInt64) (L_5mixVolume_2 v z hh j2)) := by rw [L_5mixVolume_2, B_5mixVolume_2]
    exact AR.cast (L' := [some (.ref 16384), some (.int (nI (v))), some (.int (nI (j2 + 1)))]) (by first | rfl | (rw [nI_add]; done) | (rw [nI_add]; rfl)) rfl (by rw [e2]) (ih2 (by first | trivial | omega))
  · refine AR.run g_X5_mixVolume_2_2 5 [some (.ref 16384), some (.int (nI (v))), some (.int (nI (12)))] [.int (nI (12)), .int (nI (12))] _ [] rfl trivial ?_
    refine AR.ge2N (tgt := 25) (a := 12) (b := 12) dc_X5_mixVolume_5 (by decide) (by first | rfl | (simp only [nI_add, pk_mul]; first | done | rfl)) (by first | rfl | (simp only [nI_add, pk_mul]; first | done | rfl)) (by omega) (by omega) (fun c5_3 => ?_) (fun c5_3 => absurd c5_3 (by omega))
    refine AR.run g_X5_mixVolume_25_2 27 [some (.ref 16384), some (.int (nI (v))), some (.int (nI (0)))] [] _ [] rfl trivial ?_
    refine AR.cast (L' := [some (.ref 16384), some (.int (nI (v))), some (.int (nI (0)))]) (by first | rfl | (rw [L_5mixVolume_27])) rfl (by first | rfl | (rw [L_5mixVolume_27])) (AR.loopN (4 * lv z v) (fun j27 => [some (.ref 16384), some (.int (nI (v))), some (.int (nI (j27)))]) (fun j27 => (hp o0 a0 t0 p0 (mo z sa ro te fr to un ga pi be bm en sta sv ln th (L_5mixVolume_27 v z hh j27)) u0 l0)) (fun j27 => True) (fun j27 hj27 hI27 ih27 => ?_) (fun hI27 => ?_) 0 (by omega) (by first | trivial | omega))
    · refine AR.run g_X5_mixVolume_27_5 32 [some (.ref 16384), some (.int (nI (v))), some (.int (nI (j27)))] [.int (nI (2)), .int (nI (v)), .ref 16384, .int (nI (4)), .int (nI (j27))] _ [] rfl trivial ?_
      refine AR.callV1 (16384) [.int (nI (v)), .int (nI (2))] [.int (nI (4)), .int (nI (j27))] lk_5_62 dc_X5_mixVolume_32 rfl rfl (s_ofVolume _ v 2 (by omega) (by omega)) (by first | rfl | (simp only [nI_add, pk_mul]; first | done | rfl)) rfl ?_
      refine AR.top (hLV v hv).1 ?_
      refine AR.run g_X5_mixVolume_35_1 36 [some (.ref 16384), some (.int (nI (v))), some (.int (nI (j27)))] [.int ((nI (4)) * (nI ((lv z v)))), .int (nI (j27))] _ [] rfl trivial ?_
      refine AR.ge2N (tgt := 61) (a := j27) (b := (4 * (lv z v))) dc_X5_mixVolume_36 (by decide) (by first | rfl | (simp only [nI_add, pk_mul]; first | done | rfl)) (by first | rfl | (simp only [nI_add, pk_mul]; first | done | rfl)) (by omega) (by omega) (fun c36_4 => absurd c36_4 (by omega)) (fun c36_4 => ?_)
      refine AR.run g_X5_mixVolume_39_5 44 [some (.ref 16384), some (.int (nI (v))), some (.int (nI (j27)))] [.int (nI (4)), .int (nI (j27)), .int (nI (v)), .ref 16384, .ref 16384] _ [] rfl trivial ?_
      refine AR.run g_X5_mixVolume_44_1 45 [some (.ref 16384), some (.int (nI (v))), some (.int (nI (j27)))] [.int ((nI (j27)) / (nI (4))), .int (nI (v)), .ref 16384, .ref 16384] _ [¬ (nI (4)) = 0] rfl (show ¬ ((nI (4)) = (0 : Int32)) from by decide) ?_
      refine AR.top (y := nI (j27 / 4)) (pk_div (by omega) (by decide) (by decide)) ?_
      refine AR.run g_X5_mixVolume_45_2 47 [some (.ref 16384), some (.int (nI (v))), some (.int (nI (j27)))] [.int (nI (4)), .int (nI (j27)), .int (nI ((j27 / 4))), .int (nI (v)), .ref 16384, .ref 16384] _ [] rfl trivial ?_
      refine AR.run g_X5_mixVolume_47_1 48 [some (.ref 16384), some (.int (nI (v))), some (.int (nI (j27)))] [.int ((nI (j27)) - (nI (j27)) / (nI (4)) * (nI (4))), .int (nI ((j27 / 4))), .int (nI (v)), .ref 16384, .ref 16384] _ [¬ (nI (4)) = 0] rfl (show ¬ ((nI (4)) = (0 : Int32)) from by decide) ?_
      refine AR.top (y := nI (j27 % 4)) (pk_rem (by omega) (by decide) (by decide)) ?_
      refine AR.callV1 (16384) [.int (nI (v)), .int (nI ((j27 / 4))), .int (nI ((j27 % 4)))] [.ref 16384] lk_5_164 dc_X5_mixVolume_48 rfl rfl (s_5leafNow _ v (j27 / 4) (j27 % 4) (by omega) (by omega) (by omega)) (by first | rfl | (simp only [nI_add, pk_mul]; first | done | rfl)) rfl ?_
      refine AR.run g_X5_mixVolume_51_1 52 [some (.ref 16384), some (.int (nI (v))), some (.int (nI (j27)))] [.long ((F_5leafNow v (j27 / 4) (j27 % 4) z).toInt64), .ref 16384] _ [] rfl trivial ?_
      refine AR.callV0 (16384) [.long ((F_5leafNow v (j27 / 4) (j27 % 4) z).toInt64)] [] lk_5_241 dc_X5_mixVolume_52 rfl rfl (s_5mix _ ((F_5leafNow v (j27 / 4) (j27 % 4) z).toInt64) ) (by first | rfl | (simp only [nI_add, pk_mul]; first | done | rfl)) rfl ?_
      refine AR.run g_X5_mixVolume_55_2 27 [some (.ref 16384), some (.int (nI (v))), some (.int ((nI (j27)) + (nI (1))))] [] _ [] rfl trivial ?_
      have e5 : L_5mixVolume_27 v z hh (j27 + 1) = (F_5mix_hh ((F_5leafNow v (j27 / 4) (j27 % 4) z).toInt64) (L_5mixVolume_27 v z hh j27)) := by rw [L_5mixVolume_27, B_5mixVolume_27]
      exact AR.cast (L' := [some (.ref 16384), some (.int (nI (v))), some (.int (nI (j27 + 1)))]) (by first | rfl | (rw [nI_add]; done) | (rw [nI_add]; rfl)) rfl (by rw [e5]) (ih27 (by first | trivial | omega))
    · refine AR.run g_X5_mixVolume_27_5 32 [some (.ref 16384), some (.int (nI (v))), some (.int (nI (4 * lv z v)))] [.int (nI (2)), .int (nI (v)), .ref 16384, .int (nI (4)), .int (nI (4 * lv z v))] _ [] rfl trivial ?_
      refine AR.callV1 (16384) [.int (nI (v)), .int (nI (2))] [.int (nI (4)), .int (nI (4 * lv z v))] lk_5_62 dc_X5_mixVolume_32 rfl rfl (s_ofVolume _ v 2 (by omega) (by omega)) (by first | rfl | (simp only [nI_add, pk_mul]; first | done | rfl)) rfl ?_
      refine AR.top (hLV v hv).1 ?_
      refine AR.run g_X5_mixVolume_35_1 36 [some (.ref 16384), some (.int (nI (v))), some (.int (nI (4 * lv z v)))] [.int ((nI (4)) * (nI ((lv z v)))), .int (nI (4 * lv z v))] _ [] rfl trivial ?_
      refine AR.ge2N (tgt := 61) (a := 4 * lv z v) (b := (4 * (lv z v))) dc_X5_mixVolume_36 (by decide) (by first | rfl | (simp only [nI_add, pk_mul]; first | done | rfl)) (by first | rfl | (simp only [nI_add, pk_mul]; first | done | rfl)) (by omega) (by omega) (fun c36_6 => ?_) (fun c36_6 => absurd c36_6 (by omega))
      refine AR.run g_X5_mixVolume_61_6 69 [some (.ref 16384), some (.int (nI (v))), some (.int (nI (4 * lv z v)))] [.int (nI (3)), .ref 16385, .int (nI (v)), .ref 16384, .ref 16384] _ [] rfl trivial ?_
      refine AR.ald (n := 0) (e := 3) ok_X5_mixVolume_69 (by first | rfl | (simp only [nI_add, pk_mul]; first | done | rfl)) rfl (by omega) (by first | decide | omega) ?_
      refine AR.callV1 (16384) [.int (nI (v)), .int (z 3)] [.ref 16384] lk_5_170 dc_X5_mixVolume_70 rfl rfl (s_5whereNow _ (nI (v)) (z 3) (by assumption)) (by first | rfl | (simp only [nI_add, pk_mul]; first | done | rfl)) rfl ?_
      refine AR.run g_X5_mixVolume_73_1 74 [some (.ref 16384), some (.int (nI (v))), some (.int (nI (4 * lv z v)))] [.long ((L_5whereNow_5 (nI (v)) (z 3) z ne).toInt64), .ref 16384] _ [] rfl trivial ?_
      refine AR.callV0 (16384) [.long ((L_5whereNow_5 (nI (v)) (z 3) z ne).toInt64)] [] lk_5_241 dc_X5_mixVolume_74 rfl rfl (s_5mix _ ((L_5whereNow_5 (nI (v)) (z 3) z ne).toInt64) ) (by first | rfl | (simp only [nI_add, pk_mul]; first | done | rfl)) rfl ?_
      refine AR.run g_X5_mixVolume_77_3 80 [some (.ref 16384), some (.int (nI (v))), some (.int (nI (4 * lv z v)))] [.int (nI (v)), .ref 16384, .ref 16384] _ [] rfl trivial ?_
      refine AR.callV1 (16384) [.int (nI (v))] [.ref 16384] lk_5_200 dc_X5_mixVolume_80 rfl rfl (s_5quickestNow _ v (by assumption) (by omega)) (by first | rfl | (simp only [nI_add, pk_mul]; first | done | rfl)) rfl ?_
      refine AR.run g_X5_mixVolume_83_1 84 [some (.ref 16384), some (.int (nI (v))), some (.int (nI (4 * lv z v)))] [.long ((L_5quickestNow_4 v z nr).toInt64), .ref 16384] _ [] rfl trivial ?_
      refine AR.callV0 (16384) [.long ((L_5quickestNow_4 v z nr).toInt64)] [] lk_5_241 dc_X5_mixVolume_84 rfl rfl (s_5mix _ ((L_5quickestNow_4 v z nr).toInt64) ) (by first | rfl | (simp only [nI_add, pk_mul]; first | done | rfl)) rfl ?_
      have e7_0 : F_5mixVolume_hh v nr ne z hh = (F_5mix_hh ((L_5quickestNow_4 v z nr).toInt64) (F_5mix_hh ((L_5whereNow_5 (nI (v)) (z 3) z ne).toInt64) (L_5mixVolume_27 v z hh (4 * lv z v)))) := by rw [F_5mixVolume_hh]
      exact AR.retV dc_X5_mixVolume_87 rfl (by rw [e7_0])
theorem CT.hp {E : AE} {M : AM} {d : Nat} {av : List Value} {h : AH} {o : AR0} {h' k : AH} {mc ms : Nat} (hc : CT E M d av h o h' mc ms) (e : h' = k) : CT E M d av h o k mc ms := by rw [← e]; exact hc
/-! what lies behind the cells is never written -/
theorem hi_scans {z : Nat → Int32} {c v k i : Nat} (hc : c < 4) (hv : v < 12) (hk : k < 40) (hi : 1863 ≤ i) : F_5scans_z c v k z i = z i := by
  unfold F_5scans_z
  (repeat' split) <;> (repeat rw [upd_ne (by omega)])
theorem hi_min4 {z : Nat → Int32} {nv nc nr ne i : Nat} (hZ : ZI z nv nc nr ne) (hi : 1863 ≤ i) : ∀ j : Nat, j ≤ 4 → (L_5minute_4 nv z j).2 i = z i
  | 0, _ => rfl
  | j + 1, h => by
    have ih := hi_min4 hZ hi j (by omega)
    have iz := ZI_min4 hZ j (by omega)
    show (B_5minute_4 nv j (L_5minute_4 nv z j).1 (L_5minute_4 nv z j).2).2 i = z i
    unfold B_5minute_4
    split
    · rename_i h0
      obtain ⟨h1, h2, h3, h4⟩ := idZ_0 iz h0
      exact (hi_scans (by omega) (by have := iz.1.2; omega) h4 hi).trans ih
    · exact ih
theorem hi_min42 {z : Nat → Int32} {nv nc nr ne i : Nat} (hZ : ZI z nv nc nr ne) (hi : 1863 ≤ i) : ∀ j : Nat, j ≤ 3 → L_5minute_42 nv nc z j i = z i
  | 0, _ => hi_min4 hZ hi nc hZ.2.1.2
  | j + 1, h => by
    have ih := hi_min42 hZ hi j (by omega)
    show B_5minute_42 j (L_5minute_42 nv nc z j) i = z i
    unfold B_5minute_42
    split <;> (rw [upd_ne (by omega)]; exact ih)
theorem hi_min90 {z : Nat → Int32} {nv nc nr ne i : Nat} (hZ : ZI z nv nc nr ne) (hi : 1863 ≤ i) : ∀ j : Nat, j ≤ 12 → L_5minute_90 nv nc nr z j i = z i
  | 0, _ => hi_min42 hZ hi nr hZ.2.2.1.2
  | j + 1, h => by
    have ih := hi_min90 hZ hi j (by omega)
    show B_5minute_90 j (L_5minute_90 nv nc nr z j) i = z i
    unfold B_5minute_90
    split <;> (rw [upd_ne (by omega)]; exact ih)
theorem hi_minute {z : Nat → Int32} {nv nc nr ne i : Nat} (hZ : ZI z nv nc nr ne) (hi : 1863 ≤ i) : F_5minute_z nv nc nr z i = z i := by
  unfold F_5minute_z
  rw [upd_ne (by omega)]
  exact hi_min90 hZ hi nv hZ.1.2
theorem hi_mnN {z : Nat → Int32} {nv nc nr ne i : Nat} (hZ : ZI z nv nc nr ne) (hi : 1863 ≤ i) : ∀ j : Nat, mnN nv nc nr z j i = z i
  | 0 => rfl
  | j + 1 => (hi_minute (ZI_mnN hZ j) hi).trans (hi_mnN hZ hi j)
theorem cpK_back {z y sa : Nat → Int32} (h : ∀ i, 1863 ≤ i → y i = z i) : cpK (cpK z sa 1863) y 1863 = z := by
  funext i
  unfold cpK
  by_cases h1 : i < 1863
  · rw [if_pos h1, if_pos h1]
  · rw [if_neg h1, h i (by omega)]
theorem pN_back {z sa : Nat → Int32} {nv nc nr ne m : Nat} (hZ : ZI z nv nc nr ne) : F_5passedNow_z m nv nc nr z sa = z := by
  unfold F_5passedNow_z
  rw [pN_mn]
  exact cpK_back fun i hi => hi_mnN hZ hi m
theorem W_doneNow_back {z sa : Nat → Int32} {nv nc nr ne : Nat} : ∀ (f j : Nat) (y : Nat → Int32), ZI y nv nc nr ne → (∀ i, 1863 ≤ i → y i = z i) → (W_5doneNow_6 nv nc nr z sa f j y).2 = z
  | 0, j, y, hy, h => by
    unfold W_5doneNow_6
    split <;> exact cpK_back h
  | f + 1, j, y, hy, h => by
    unfold W_5doneNow_6
    split
    · split <;> exact cpK_back h
    · exact W_doneNow_back f (j + 1) _ (ZI_minute hy) fun i hi => (hi_minute hy hi).trans (h i hi)
theorem dN_back {z sa : Nat → Int32} {nv nc nr ne : Nat} (hZ : ZI z nv nc nr ne) : F_5doneNow_z nv nc nr z sa = z := W_doneNow_back 2001 0 z hZ fun _ _ => rfl
