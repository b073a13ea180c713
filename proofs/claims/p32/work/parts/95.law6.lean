theorem mi_vo2 {nv nc : Nat} {vo ls ln cr st : Nat → Int32} (v : Nat) : F_Lminute_vo nv nc vo ls ln cr st (7 * v + 2) = vo (7 * v + 2) := by
  unfold F_Lminute_vo
  have h : ∀ j : Nat, L_Lminute_245 nv nc vo ls ln cr st j (7 * v + 2) = vo (7 * v + 2) := by
    intro j
    induction j with
    | zero => exact mi_vo nc v
    | succ j ih =>
      show B_Lminute_245 j (L_Lminute_245 nv nc vo ls ln cr st j) (7 * v + 2) = _
      unfold B_Lminute_245
      split
      · exact ih
      · rw [upd_ne (by omega)]; exact ih
  exact h nv
theorem mi_cc {cc : Nat → Int32} {q : Nat} (h : q ≠ 3) : F_Lminute_cc cc q = cc q := by
  unfold F_Lminute_cc
  rw [upd_ne h]
theorem sm_V {vo1 vo : Nat → Int32} : ∀ j q : Nat, q < j → L_LsameV_2 vo1 vo j q = vo1 q
  | 0, q, h => absurd h (by omega)
  | j + 1, q, h => by
    show upd (L_LsameV_2 vo1 vo j) j (vo1 j) q = _
    by_cases e : q = j
    · subst e; rw [upd_eq]
    · rw [upd_ne e]; exact sm_V j q (by omega)
theorem sa_V {vo1 vo : Nat → Int32} {q : Nat} (h : q < 28) : F_LsameV_vo vo1 vo q = vo1 q := sm_V 28 q h
theorem sm_S {ls1 ls : Nat → Int32} : ∀ j q : Nat, q < j → L_LsameS_2 ls1 ls j q = ls1 q
  | 0, q, h => absurd h (by omega)
  | j + 1, q, h => by
    show upd (L_LsameS_2 ls1 ls j) j (ls1 j) q = _
    by_cases e : q = j
    · subst e; rw [upd_eq]
    · rw [upd_ne e]; exact sm_S j q (by omega)
theorem sa_S {ls1 ls : Nat → Int32} {q : Nat} (h : q < 32) : F_LsameS_ls ls1 ls q = ls1 q := sm_S 32 q h
theorem sm_N {ln1 ln : Nat → Int32} : ∀ j q : Nat, q < j → L_LsameN_2 ln1 ln j q = ln1 q
  | 0, q, h => absurd h (by omega)
  | j + 1, q, h => by
    show upd (L_LsameN_2 ln1 ln j) j (ln1 j) q = _
    by_cases e : q = j
    · subst e; rw [upd_eq]
    · rw [upd_ne e]; exact sm_N j q (by omega)
theorem sa_N {ln1 ln : Nat → Int32} {q : Nat} (h : q < 32) : F_LsameN_ln ln1 ln q = ln1 q := sm_N 32 q h
theorem sm_R {cr1 cr : Nat → Int32} : ∀ j q : Nat, q < j → L_LsameR_2 cr1 cr j q = cr1 q
  | 0, q, h => absurd h (by omega)
  | j + 1, q, h => by
    show upd (L_LsameR_2 cr1 cr j) j (cr1 j) q = _
    by_cases e : q = j
    · subst e; rw [upd_eq]
    · rw [upd_ne e]; exact sm_R j q (by omega)
theorem sa_R {cr1 cr : Nat → Int32} {q : Nat} (h : q < 8) : F_LsameR_cr cr1 cr q = cr1 q := sm_R 8 q h
theorem sm_A {ca1 ca : Nat → Int32} : ∀ j q : Nat, q < j → L_LsameA_2 ca1 ca j q = ca1 q
  | 0, q, h => absurd h (by omega)
  | j + 1, q, h => by
    show upd (L_LsameA_2 ca1 ca j) j (ca1 j) q = _
    by_cases e : q = j
    · subst e; rw [upd_eq]
    · rw [upd_ne e]; exact sm_A j q (by omega)
theorem sa_A {ca1 ca : Nat → Int32} {q : Nat} (h : q < 8) : F_LsameA_ca ca1 ca q = ca1 q := sm_A 8 q h
theorem sm_C {cc1 cc : Nat → Int32} : ∀ j q : Nat, q < j → L_LsameC_2 cc1 cc j q = cc1 q
  | 0, q, h => absurd h (by omega)
  | j + 1, q, h => by
    show upd (L_LsameC_2 cc1 cc j) j (cc1 j) q = _
    by_cases e : q = j
    · subst e; rw [upd_eq]
    · rw [upd_ne e]; exact sm_C j q (by omega)
theorem sa_C {cc1 cc : Nat → Int32} {q : Nat} (h : q < 7) : F_LsameC_cc cc1 cc q = cc1 q := sm_C 7 q h
theorem lL_of {vo vo' : Nat → Int32} {nv : Nat} (h4 : nv ≤ 4) (hL : ∀ v, v < nv → vo (7 * v + 2) = nI (lL vo v) ∧ lL vo v ≤ 8) (h : ∀ v, v < 4 → vo' (7 * v + 2) = vo (7 * v + 2)) : ∀ v, v < nv → vo' (7 * v + 2) = nI (lL vo' v) ∧ lL vo' v ≤ 8 := by
  intro v hv
  have e : lL vo' v = lL vo v := by unfold lL; rw [h v (by omega)]
  rw [e, h v (by omega)]
  exact hL v hv
def F_LgainA : Int32 := (nI (0))
theorem F_LgainA_01 : F_LgainA  = nI 0 ∨ F_LgainA  = nI 1 := by
  unfold F_LgainA
  (repeat' split) <;> first | exact Or.inl rfl | exact Or.inr rfl | exact wi01 _ _ _
theorem g_L_gain_0_1 : ab_oks M_L_gain [(0, .iload_n 1, 1, 1, 0, 0, .null)] = true := by decide +kernel
theorem dc_L_gain_1 : decode (AM.bytes M_L_gain) 1 = .ok (.ifCond .ge 5, 3) := by decide +kernel
theorem g_L_gain_4_1 : ab_oks M_L_gain [(4, .iconst 0, 1, 0, 0, 0, .int (nI (0)))] = true := by decide +kernel
theorem dc_L_gain_5 : decode (AM.bytes M_L_gain) 5 = .ok (.ireturn, 1) := by decide +kernel
set_option maxRecDepth 100000 in
set_option maxHeartbeats 4000000 in
theorem s_LgainA {E : AE} (d : Nat) (k : Nat) (m : Nat)  {o0 a0 t0 p0 u0 l0 : List AC} {vo ls ln lb cr ca lo st cc : Nat → Int32} : CT E M_L_gain (d + 3) [.int (nI (k)), .int (-1), .int (nI (m)), .ref 16384, .ref 16385, .ref 16386, .ref 16388, .ref 16391, .ref 16392] (hp o0 a0 t0 p0 (la_ vo ls ln lb cr ca lo st cc) u0 l0) (.inl (some (.int (nI (0))))) (hp o0 a0 t0 p0 (la_ vo ls ln lb cr ca lo st cc) u0 l0) 6 115 := by
  refine CT.of (L := [some (.int (nI (k))), some (.int (-1)), some (.int (nI (m))), some (.ref 16384), some (.ref 16385), some (.ref 16386), some (.ref 16388), some (.ref 16391), some (.ref 16392), none, none, none, none, none, none, none]) rfl rfl ?_
  refine AR.run g_L_gain_0_1 1 [some (.int (nI (k))), some (.int (-1)), some (.int (nI (m))), some (.ref 16384), some (.ref 16385), some (.ref 16386), some (.ref 16388), some (.ref 16391), some (.ref 16392), none, none, none, none, none, none, none] [.int (-1)] _ [] rfl trivial ?_
  refine AR.ge (tgt := 6) dc_L_gain_1 (by decide) (fun c1_1 => absurd c1_1 (by decide)) (fun c1_1 => ?_)
  refine AR.run g_L_gain_4_1 5 [some (.int (nI (k))), some (.int (-1)), some (.int (nI (m))), some (.ref 16384), some (.ref 16385), some (.ref 16386), some (.ref 16388), some (.ref 16391), some (.ref 16392), none, none, none, none, none, none, none] [.int (nI (0))] _ [] rfl trivial ?_
  exact AR.retI dc_L_gain_5 rfl rfl rfl
def F_LgainB (k : Nat) (v : Nat) (nv : Nat) (nc : Nat) (vo : Nat → Int32) (cr : Nat → Int32) : Int32 := if nc ≤ k then (-1) else if 0 ≤ (oI (onL vo (nI (k)) nv)) then (-1) else if 0 ≤ (vo ((7 * v) + 5)) then (-1) else if 0 < (vo ((7 * v) + 6)) then (-1) else if (cr (4 * k)) < (vo ((7 * v) + 1)) then (-1) else (-1)
theorem g_L_gain_6_3 : ab_oks M_L_gain [(6, .iload_n 0, 1, 0, 0, 0, .null), (7, .aload 8, 2, 8, 0, 0, .null), (9, .iconst 1, 1, 0, 0, 0, .int (nI (1)))] = true := by decide +kernel
theorem ok_L_gain_10 : ab_ok M_L_gain (10, .iaload, 1, 0, 0, 0, .null) = true := by decide +kernel
theorem dc_L_gain_11 : decode (AM.bytes M_L_gain) 11 = .ok (.if_icmp .ge 72, 3) := by decide +kernel
theorem g_L_gain_83_1 : ab_oks M_L_gain [(83, .iconst (-1), 1, 0, 0, 0, .int (-1))] = true := by decide +kernel
theorem dc_L_gain_84 : decode (AM.bytes M_L_gain) 84 = .ok (.ireturn, 1) := by decide +kernel
theorem g_L_gain_14_3 : ab_oks M_L_gain [(14, .iload_n 0, 1, 0, 0, 0, .null), (15, .aload_n 3, 1, 3, 0, 0, .null), (16, .aload 8, 2, 8, 0, 0, .null)] = true := by decide +kernel
theorem dc_L_gain_18 : decode (AM.bytes M_L_gain) 18 = .ok (.invokestatic 8, 3) := by decide +kernel
theorem dc_L_gain_21 : decode (AM.bytes M_L_gain) 21 = .ok (.ifCond .ge 62, 3) := by decide +kernel
theorem g_L_gain_24_6 : ab_oks M_L_gain [(24, .aload_n 3, 1, 3, 0, 0, .null), (25, .bipush 7, 2, 0, 0, 0, .int (nI (7))), (27, .iload_n 1, 1, 1, 0, 0, .null), (28, .imul, 1, 0, 0, 0, .null), (29, .iconst 5, 1, 0, 0, 0, .int (nI (5))), (30, .iadd, 1, 0, 0, 0, .null)] = true := by decide +kernel
theorem ok_L_gain_31 : ab_ok M_L_gain (31, .iaload, 1, 0, 0, 0, .null) = true := by decide +kernel
theorem dc_L_gain_32 : decode (AM.bytes M_L_gain) 32 = .ok (.ifCond .ge 51, 3) := by decide +kernel
theorem g_L_gain_35_6 : ab_oks M_L_gain [(35, .aload_n 3, 1, 3, 0, 0, .null), (36, .bipush 7, 2, 0, 0, 0, .int (nI (7))), (38, .iload_n 1, 1, 1, 0, 0, .null), (39, .imul, 1, 0, 0, 0, .null), (40, .bipush 6, 2, 0, 0, 0, .int (nI (6))), (42, .iadd, 1, 0, 0, 0, .null)] = true := by decide +kernel
theorem ok_L_gain_43 : ab_ok M_L_gain (43, .iaload, 1, 0, 0, 0, .null) = true := by decide +kernel
theorem dc_L_gain_44 : decode (AM.bytes M_L_gain) 44 = .ok (.ifCond .gt 39, 3) := by decide +kernel
theorem g_L_gain_47_6 : ab_oks M_L_gain [(47, .aload_n 3, 1, 3, 0, 0, .null), (48, .bipush 7, 2, 0, 0, 0, .int (nI (7))), (50, .iload_n 1, 1, 1, 0, 0, .null), (51, .imul, 1, 0, 0, 0, .null), (52, .iconst 1, 1, 0, 0, 0, .int (nI (1))), (53, .iadd, 1, 0, 0, 0, .null)] = true := by decide +kernel
theorem ok_L_gain_54 : ab_ok M_L_gain (54, .iaload, 1, 0, 0, 0, .null) = true := by decide +kernel
theorem g_L_gain_55_4 : ab_oks M_L_gain [(55, .aload 6, 2, 6, 0, 0, .null), (57, .iconst 4, 1, 0, 0, 0, .int (nI (4))), (58, .iload_n 0, 1, 0, 0, 0, .null), (59, .imul, 1, 0, 0, 0, .null)] = true := by decide +kernel
theorem ok_L_gain_60 : ab_ok M_L_gain (60, .iaload, 1, 0, 0, 0, .null) = true := by decide +kernel
theorem dc_L_gain_61 : decode (AM.bytes M_L_gain) 61 = .ok (.if_icmp .gt 22, 3) := by decide +kernel
theorem g_L_gain_64_6 : ab_oks M_L_gain [(64, .aload_n 3, 1, 3, 0, 0, .null), (65, .bipush 7, 2, 0, 0, 0, .int (nI (7))), (67, .iload_n 1, 1, 1, 0, 0, .null), (68, .imul, 1, 0, 0, 0, .null), (69, .iconst 3, 1, 0, 0, 0, .int (nI (3))), (70, .iadd, 1, 0, 0, 0, .null)] = true := by decide +kernel
theorem ok_L_gain_71 : ab_ok M_L_gain (71, .iaload, 1, 0, 0, 0, .null) = true := by decide +kernel
theorem g_L_gain_72_6 : ab_oks M_L_gain [(72, .aload 6, 2, 6, 0, 0, .null), (74, .iconst 4, 1, 0, 0, 0, .int (nI (4))), (75, .iload_n 0, 1, 0, 0, 0, .null), (76, .imul, 1, 0, 0, 0, .null), (77, .iconst 1, 1, 0, 0, 0, .int (nI (1))), (78, .iadd, 1, 0, 0, 0, .null)] = true := by decide +kernel
theorem ok_L_gain_79 : ab_ok M_L_gain (79, .iaload, 1, 0, 0, 0, .null) = true := by decide +kernel
theorem dc_L_gain_80 : decode (AM.bytes M_L_gain) 80 = .ok (.if_icmp .le 5, 3) := by decide +kernel
set_option maxRecDepth 100000 in
set_option maxHeartbeats 4000000 in
theorem s_LgainB {E : AE} (d : Nat) (k : Nat) (v : Nat) (m : Nat) {nv : Nat} {nc : Nat} {nr : Nat}  {o0 a0 t0 p0 u0 l0 : List AC} {vo ls ln lb cr ca lo st cc : Nat → Int32} (hc0 : cc 0 = nI nv) (h4 : nv ≤ 4) (hc1 : cc 1 = nI nc) (h2c : nc ≤ 2) (hc2 : cc 2 = nI nr) (h2r : nr ≤ 2) (hL : ∀ v, v < nv → vo (7 * v + 2) = nI (lL vo v) ∧ lL vo v ≤ 8) (hk : k < 2) (hv : v < 4) (hbad : ¬ (k < nc ∧ ¬ 0 ≤ oI (onL vo (nI k) nv) ∧ ¬ 0 ≤ vo (7 * v + 5) ∧ ¬ 0 < vo (7 * v + 6) ∧ ¬ cr (4 * k) < vo (7 * v + 1) ∧ vo (7 * v + 3) ≤ cr (4 * k + 1))) : CT E M_L_gain (d + 3) [.int (nI (k)), .int (nI (v)), .int (nI (m)), .ref 16384, .ref 16385, .ref 16386, .ref 16388, .ref 16391, .ref 16392] (hp o0 a0 t0 p0 (la_ vo ls ln lb cr ca lo st cc) u0 l0) (.inl (some (.int (-1)))) (hp o0 a0 t0 p0 (la_ vo ls ln lb cr ca lo st cc) u0 l0) 6 115 := by
  refine CT.of (L := [some (.int (nI (k))), some (.int (nI (v))), some (.int (nI (m))), some (.ref 16384), some (.ref 16385), some (.ref 16386), some (.ref 16388), some (.ref 16391), some (.ref 16392), none, none, none, none, none, none, none]) rfl rfl ?_
  refine AR.run g_L_gain_0_1 1 [some (.int (nI (k))), some (.int (nI (v))), some (.int (nI (m))), some (.ref 16384), some (.ref 16385), some (.ref 16386), some (.ref 16388), some (.ref 16391), some (.ref 16392), none, none, none, none, none, none, none] [.int (nI (v))] _ [] rfl trivial ?_
  refine AR.geN (tgt := 6) (a := v) dc_L_gain_1 (by decide) (by first | rfl | (simp only [nI_add, pk_mul]; first | done | rfl)) (by omega) (fun c1_1 => ?_) (fun c1_1 => absurd c1_1 (fun q => q))
  refine AR.run g_L_gain_6_3 10 [some (.int (nI (k))), some (.int (nI (v))), some (.int (nI (m))), some (.ref 16384), some (.ref 16385), some (.ref 16386), some (.ref 16388), some (.ref 16391), some (.ref 16392), none, none, none, none, none, none, none] [.int (nI (1)), .ref 16392, .int (nI (k))] _ [] rfl trivial ?_
  refine AR.ald (n := 0) (e := 1) ok_L_gain_10 (by first | rfl | (simp only [nI_add, pk_mul]; first | done | rfl)) rfl (by omega) (by first | decide | omega) ?_
  refine AR.top hc1 ?_
  refine AR.ge2N (tgt := 83) (a := k) (b := nc) dc_L_gain_11 (by decide) (by first | rfl | (simp only [nI_add, pk_mul]; first | done | rfl)) (by first | rfl | (simp only [nI_add, pk_mul]; first | done | rfl)) (by omega) (by omega) (fun c11_2 => ?_) (fun c11_2 => ?_)
  · refine AR.run g_L_gain_83_1 84 [some (.int (nI (k))), some (.int (nI (v))), some (.int (nI (m))), some (.ref 16384), some (.ref 16385), some (.ref 16386), some (.ref 16388), some (.ref 16391), some (.ref 16392), none, none, none, none, none, none, none] [.int (-1)] _ [] rfl trivial ?_
    exact AR.retI dc_L_gain_84 rfl rfl rfl
  · refine AR.run g_L_gain_14_3 18 [some (.int (nI (k))), some (.int (nI (v))), some (.int (nI (m))), some (.ref 16384), some (.ref 16385), some (.ref 16386), some (.ref 16388), some (.ref 16391), some (.ref 16392), none, none, none, none, none, none, none] [.ref 16392, .ref 16384, .int (nI (k))] _ [] rfl trivial ?_
    refine AR.callS1 [.int (nI (k)), .ref 16384, .ref 16392] [] lk_L_8 dc_L_gain_18 (s_LonO _ (nI (k)) (by assumption) (by omega)) (by first | rfl | (simp only [nI_add, pk_mul]; first | done | rfl)) rfl ?_
    refine AR.ge (tgt := 83) dc_L_gain_21 (by decide) (fun c21_4 => ?_) (fun c21_4 => ?_)
    · refine AR.run g_L_gain_83_1 84 [some (.int (nI (k))), some (.int (nI (v))), some (.int (nI (m))), some (.ref 16384), some (.ref 16385), some (.ref 16386), some (.ref 16388), some (.ref 16391), some (.ref 16392), none, none, none, none, none, none, none] [.int (-1)] _ [] rfl trivial ?_
      exact AR.retI dc_L_gain_84 rfl rfl rfl
    · refine AR.run g_L_gain_24_6 31 [some (.int (nI (k))), some (.int (nI (v))), some (.int (nI (m))), some (.ref 16384), some (.ref 16385), some (.ref 16386), some (.ref 16388), some (.ref 16391), some (.ref 16392), none, none, none, none, none, none, none] [.int (((nI (7)) * (nI (v))) + (nI (5))), .ref 16384] _ [] rfl trivial ?_
      refine AR.ald (n := 0) (e := ((7 * v) + 5)) ok_L_gain_31 (by first | rfl | (simp only [nI_add, pk_mul]; first | done | rfl)) rfl (by omega) (by first | decide | omega) ?_
      refine AR.ge (tgt := 83) dc_L_gain_32 (by decide) (fun c32_6 => ?_) (fun c32_6 => ?_)
      · refine AR.run g_L_gain_83_1 84 [some (.int (nI (k))), some (.int (nI (v))), some (.int (nI (m))), some (.ref 16384), some (.ref 16385), some (.ref 16386), some (.ref 16388), some (.ref 16391), some (.ref 16392), none, none, none, none, none, none, none] [.int (-1)] _ [] rfl trivial ?_
        exact AR.retI dc_L_gain_84 rfl rfl rfl
      · refine AR.run g_L_gain_35_6 43 [some (.int (nI (k))), some (.int (nI (v))), some (.int (nI (m))), some (.ref 16384), some (.ref 16385), some (.ref 16386), some (.ref 16388), some (.ref 16391), some (.ref 16392), none, none, none, none, none, none, none] [.int (((nI (7)) * (nI (v))) + (nI (6))), .ref 16384] _ [] rfl trivial ?_
        refine AR.ald (n := 0) (e := ((7 * v) + 6)) ok_L_gain_43 (by first | rfl | (simp only [nI_add, pk_mul]; first | done | rfl)) rfl (by omega) (by first | decide | omega) ?_
        refine AR.gt (tgt := 83) dc_L_gain_44 (by decide) (fun c44_8 => ?_) (fun c44_8 => ?_)
        · refine AR.run g_L_gain_83_1 84 [some (.int (nI (k))), some (.int (nI (v))), some (.int (nI (m))), some (.ref 16384), some (.ref 16385), some (.ref 16386), some (.ref 16388), some (.ref 16391), some (.ref 16392), none, none, none, none, none, none, none] [.int (-1)] _ [] rfl trivial ?_
          exact AR.retI dc_L_gain_84 rfl rfl rfl
        · refine AR.run g_L_gain_47_6 54 [some (.int (nI (k))), some (.int (nI (v))), some (.int (nI (m))), some (.ref 16384), some (.ref 16385), some (.ref 16386), some (.ref 16388), some (.ref 16391), some (.ref 16392), none, none, none, none, none, none, none] [.int (((nI (7)) * (nI (v))) + (nI (1))), .ref 16384] _ [] rfl trivial ?_
          refine AR.ald (n := 0) (e := ((7 * v) + 1)) ok_L_gain_54 (by first | rfl | (simp only [nI_add, pk_mul]; first | done | rfl)) rfl (by omega) (by first | decide | omega) ?_
          refine AR.run g_L_gain_55_4 60 [some (.int (nI (k))), some (.int (nI (v))), some (.int (nI (m))), some (.ref 16384), some (.ref 16385), some (.ref 16386), some (.ref 16388), some (.ref 16391), some (.ref 16392), none, none, none, none, none, none, none] [.int ((nI (4)) * (nI (k))), .ref 16388, .int (vo ((7 * v) + 1))] _ [] rfl trivial ?_
          refine AR.ald (n := 0) (e := (4 * k)) ok_L_gain_60 (by first | rfl | (simp only [nI_add, pk_mul]; first | done | rfl)) rfl (by omega) (by first | decide | omega) ?_
          refine AR.gt2 (tgt := 83) dc_L_gain_61 (by decide) (fun c61_10 => ?_) (fun c61_10 => ?_)
          · refine AR.run g_L_gain_83_1 84 [some (.int (nI (k))), some (.int (nI (v))), some (.int (nI (m))), some (.ref 16384), some (.ref 16385), some (.ref 16386), some (.ref 16388), some (.ref 16391), some (.ref 16392), none, none, none, none, none, none, none] [.int (-1)] _ [] rfl trivial ?_
            exact AR.retI dc_L_gain_84 rfl rfl rfl
          · refine AR.run g_L_gain_64_6 71 [some (.int (nI (k))), some (.int (nI (v))), some (.int (nI (m))), some (.ref 16384), some (.ref 16385), some (.ref 16386), some (.ref 16388), some (.ref 16391), some (.ref 16392), none, none, none, none, none, none, none] [.int (((nI (7)) * (nI (v))) + (nI (3))), .ref 16384] _ [] rfl trivial ?_
            refine AR.ald (n := 0) (e := ((7 * v) + 3)) ok_L_gain_71 (by first | rfl | (simp only [nI_add, pk_mul]; first | done | rfl)) rfl (by omega) (by first | decide | omega) ?_
            refine AR.run g_L_gain_72_6 79 [some (.int (nI (k))), some (.int (nI (v))), some (.int (nI (m))), some (.ref 16384), some (.ref 16385), some (.ref 16386), some (.ref 16388), some (.ref 16391), some (.ref 16392), none, none, none, none, none, none, none] [.int (((nI (4)) * (nI (k))) + (nI (1))), .ref 16388, .int (vo ((7 * v) + 3))] _ [] rfl trivial ?_
            refine AR.ald (n := 0) (e := ((4 * k) + 1)) ok_L_gain_79 (by first | rfl | (simp only [nI_add, pk_mul]; first | done | rfl)) rfl (by omega) (by first | decide | omega) ?_
            refine AR.le2 (tgt := 85) dc_L_gain_80 (by decide) (fun c80_12 => absurd c80_12 (fun q9 => hbad ⟨by omega, by assumption, by assumption, by assumption, by assumption, q9⟩)) (fun c80_12 => ?_)
            refine AR.run g_L_gain_83_1 84 [some (.int (nI (k))), some (.int (nI (v))), some (.int (nI (m))), some (.ref 16384), some (.ref 16385), some (.ref 16386), some (.ref 16388), some (.ref 16391), some (.ref 16392), none, none, none, none, none, none, none] [.int (-1)] _ [] rfl trivial ?_
            exact AR.retI dc_L_gain_84 rfl rfl rfl
def B_Lgain_188 (nv : Nat) (nc : Nat) (nr : Nat) (st : Nat → Int32) (j188 : Nat) (y188_tl0 : Nat → Int32) (y188_tl1 : Nat → Int32) (y188_tl2 : Nat → Int32) (y188_tl3 : Nat → Int32) (y188_tl4 : Nat → Int32) (y188_tl5 : Nat → Int32) : (Nat → Int32) × (Nat → Int32) × (Nat → Int32) × (Nat → Int32) × (Nat → Int32) × (Nat → Int32) := (F_Lminute_vo nv nc y188_tl0 y188_tl1 y188_tl2 y188_tl3 st, F_Lminute_ls nv nc y188_tl0 y188_tl1 y188_tl2 y188_tl3 st, F_Lminute_ln nv nc y188_tl0 y188_tl1 y188_tl2 y188_tl3 st, F_Lminute_cr nv nc y188_tl0 y188_tl1 y188_tl2 y188_tl3 st, F_Lminute_ca nr y188_tl4, F_Lminute_cc y188_tl5)
def L_Lgain_188 (k : Nat) (v : Nat) (nv : Nat) (nc : Nat) (nr : Nat) (vo : Nat → Int32) (ls : Nat → Int32) (ln : Nat → Int32) (cr : Nat → Int32) (st : Nat → Int32) (cc : Nat → Int32) : Nat → (Nat → Int32) × (Nat → Int32) × (Nat → Int32) × (Nat → Int32) × (Nat → Int32) × (Nat → Int32)
  | 0 => (upd (upd (F_LsameV_vo vo (fun _ => 0)) ((7 * v) + 5) (nI (k))) ((7 * v) + 6) (nI (1)), F_LsameS_ls ls (fun _ => 0), F_LsameN_ln ln (fun _ => 0), upd (F_LsameR_cr cr (fun _ => 0)) ((4 * k) + 2) (nI (0)), fun _ => 0, F_LsameC_cc cc (fun _ => 0))
  | j + 1 => B_Lgain_188 nv nc nr st j ((L_Lgain_188 k v nv nc nr vo ls ln cr st cc  j).1) ((L_Lgain_188 k v nv nc nr vo ls ln cr st cc  j).2.1) ((L_Lgain_188 k v nv nc nr vo ls ln cr st cc  j).2.2.1) ((L_Lgain_188 k v nv nc nr vo ls ln cr st cc  j).2.2.2.1) ((L_Lgain_188 k v nv nc nr vo ls ln cr st cc  j).2.2.2.2.1) ((L_Lgain_188 k v nv nc nr vo ls ln cr st cc  j).2.2.2.2.2)
theorem gn_I {nv nc nr k v : Nat} {vo ls ln cr st cc : Nat → Int32} : ∀ j : Nat, (∀ q, q < 3 → (L_Lgain_188 k v nv nc nr vo ls ln cr st cc j).2.2.2.2.2 q = cc q) ∧ ∀ u, u < 4 → (L_Lgain_188 k v nv nc nr vo ls ln cr st cc j).1 (7 * u + 2) = vo (7 * u + 2)
  | 0 => by
    refine ⟨fun q hq => sa_C (by omega), fun u hu => ?_⟩
    show upd (upd (F_LsameV_vo vo _) _ _) _ _ _ = _
    rw [upd_ne (by omega), upd_ne (by omega), sa_V (by omega)]
  | j + 1 => by
    have ih := gn_I (nv := nv) (nc := nc) (nr := nr) (k := k) (v := v) (vo := vo) (ls := ls) (ln := ln) (cr := cr) (st := st) (cc := cc) j
    refine ⟨fun q hq => ?_, fun u hu => ?_⟩
    · show F_Lminute_cc _ q = _
      rw [mi_cc (by omega)]; exact ih.1 q hq
    · show F_Lminute_vo _ _ _ _ _ _ _ _ = _
      rw [mi_vo2]; exact ih.2 u hu
theorem g_L_gain_85_1 : ab_oks M_L_gain [(85, .bipush 28, 2, 0, 0, 0, .int (nI (28)))] = true := by decide +kernel
theorem na_int : ab_at 84 (.arrayClass .int) = true := by decide +kernel
theorem dc_L_gain_87 : decode (AM.bytes M_L_gain) 87 = .ok (.newarray .int, 2) := by decide +kernel
theorem g_L_gain_89_2 : ab_oks M_L_gain [(89, .astore 9, 2, 9, 0, 0, .null), (91, .bipush 32, 2, 0, 0, 0, .int (nI (32)))] = true := by decide +kernel
theorem dc_L_gain_93 : decode (AM.bytes M_L_gain) 93 = .ok (.newarray .int, 2) := by decide +kernel
theorem g_L_gain_95_2 : ab_oks M_L_gain [(95, .astore 10, 2, 10, 0, 0, .null), (97, .bipush 32, 2, 0, 0, 0, .int (nI (32)))] = true := by decide +kernel
theorem dc_L_gain_99 : decode (AM.bytes M_L_gain) 99 = .ok (.newarray .int, 2) := by decide +kernel
theorem g_L_gain_101_2 : ab_oks M_L_gain [(101, .astore 11, 2, 11, 0, 0, .null), (103, .bipush 8, 2, 0, 0, 0, .int (nI (8)))] = true := by decide +kernel
theorem dc_L_gain_105 : decode (AM.bytes M_L_gain) 105 = .ok (.newarray .int, 2) := by decide +kernel
theorem g_L_gain_107_2 : ab_oks M_L_gain [(107, .astore 12, 2, 12, 0, 0, .null), (109, .bipush 8, 2, 0, 0, 0, .int (nI (8)))] = true := by decide +kernel
theorem dc_L_gain_111 : decode (AM.bytes M_L_gain) 111 = .ok (.newarray .int, 2) := by decide +kernel
theorem g_L_gain_113_2 : ab_oks M_L_gain [(113, .astore 13, 2, 13, 0, 0, .null), (115, .bipush 7, 2, 0, 0, 0, .int (nI (7)))] = true := by decide +kernel
theorem dc_L_gain_117 : decode (AM.bytes M_L_gain) 117 = .ok (.newarray .int, 2) := by decide +kernel
theorem g_L_gain_119_3 : ab_oks M_L_gain [(119, .astore 14, 2, 14, 0, 0, .null), (121, .aload 9, 2, 9, 0, 0, .null), (123, .aload_n 3, 1, 3, 0, 0, .null)] = true := by decide +kernel
theorem lk_L_68 : ab_lkS "LeafCradlesLaw" 68 M_L_same 2 [426, 427, 28, 428] = true := by decide +kernel
theorem dc_L_gain_124 : decode (AM.bytes M_L_gain) 124 = .ok (.invokestatic 68, 3) := by decide +kernel
theorem g_L_gain_127_2 : ab_oks M_L_gain [(127, .aload 10, 2, 10, 0, 0, .null), (129, .aload 4, 2, 4, 0, 0, .null)] = true := by decide +kernel
theorem dc_L_gain_131 : decode (AM.bytes M_L_gain) 131 = .ok (.invokestatic 68, 3) := by decide +kernel
theorem g_L_gain_134_2 : ab_oks M_L_gain [(134, .aload 11, 2, 11, 0, 0, .null), (136, .aload 5, 2, 5, 0, 0, .null)] = true := by decide +kernel
theorem dc_L_gain_138 : decode (AM.bytes M_L_gain) 138 = .ok (.invokestatic 68, 3) := by decide +kernel
theorem g_L_gain_141_2 : ab_oks M_L_gain [(141, .aload 12, 2, 12, 0, 0, .null), (143, .aload 6, 2, 6, 0, 0, .null)] = true := by decide +kernel
theorem dc_L_gain_145 : decode (AM.bytes M_L_gain) 145 = .ok (.invokestatic 68, 3) := by decide +kernel
theorem g_L_gain_148_2 : ab_oks M_L_gain [(148, .aload 14, 2, 14, 0, 0, .null), (150, .aload 8, 2, 8, 0, 0, .null)] = true := by decide +kernel
theorem dc_L_gain_152 : decode (AM.bytes M_L_gain) 152 = .ok (.invokestatic 68, 3) := by decide +kernel
theorem g_L_gain_155_7 : ab_oks M_L_gain [(155, .aload 9, 2, 9, 0, 0, .null), (157, .bipush 7, 2, 0, 0, 0, .int (nI (7))), (159, .iload_n 1, 1, 1, 0, 0, .null), (160, .imul, 1, 0, 0, 0, .null), (161, .iconst 5, 1, 0, 0, 0, .int (nI (5))), (162, .iadd, 1, 0, 0, 0, .null), (163, .iload_n 0, 1, 0, 0, 0, .null)] = true := by decide +kernel
theorem ok_L_gain_164 : ab_ok M_L_gain (164, .iastore, 1, 0, 0, 0, .null) = true := by decide +kernel
theorem g_L_gain_165_7 : ab_oks M_L_gain [(165, .aload 9, 2, 9, 0, 0, .null), (167, .bipush 7, 2, 0, 0, 0, .int (nI (7))), (169, .iload_n 1, 1, 1, 0, 0, .null), (170, .imul, 1, 0, 0, 0, .null), (171, .bipush 6, 2, 0, 0, 0, .int (nI (6))), (173, .iadd, 1, 0, 0, 0, .null), (174, .iconst 1, 1, 0, 0, 0, .int (nI (1)))] = true := by decide +kernel
theorem ok_L_gain_175 : ab_ok M_L_gain (175, .iastore, 1, 0, 0, 0, .null) = true := by decide +kernel
theorem g_L_gain_176_7 : ab_oks M_L_gain [(176, .aload 12, 2, 12, 0, 0, .null), (178, .iconst 4, 1, 0, 0, 0, .int (nI (4))), (179, .iload_n 0, 1, 0, 0, 0, .null), (180, .imul, 1, 0, 0, 0, .null), (181, .iconst 2, 1, 0, 0, 0, .int (nI (2))), (182, .iadd, 1, 0, 0, 0, .null), (183, .iconst 0, 1, 0, 0, 0, .int (nI (0)))] = true := by decide +kernel
theorem ok_L_gain_184 : ab_ok M_L_gain (184, .iastore, 1, 0, 0, 0, .null) = true := by decide +kernel
theorem g_L_gain_185_2 : ab_oks M_L_gain [(185, .iconst 0, 1, 0, 0, 0, .int (nI (0))), (186, .istore 15, 2, 15, 0, 0, .null)] = true := by decide +kernel
theorem g_L_gain_188_2 : ab_oks M_L_gain [(188, .iload 15, 2, 15, 0, 0, .null), (190, .iload_n 2, 1, 2, 0, 0, .null)] = true := by decide +kernel
theorem dc_L_gain_191 : decode (AM.bytes M_L_gain) 191 = .ok (.if_icmp .ge 27, 3) := by decide +kernel
theorem g_L_gain_194_7 : ab_oks M_L_gain [(194, .aload 9, 2, 9, 0, 0, .null), (196, .aload 10, 2, 10, 0, 0, .null), (198, .aload 11, 2, 11, 0, 0, .null), (200, .aload 12, 2, 12, 0, 0, .null), (202, .aload 13, 2, 13, 0, 0, .null), (204, .aload 7, 2, 7, 0, 0, .null), (206, .aload 14, 2, 14, 0, 0, .null)] = true := by decide +kernel
theorem lk_L_72 : ab_lkS "LeafCradlesLaw" 72 M_L_minute 7 [429, 430, 28, 431] = true := by decide +kernel
theorem dc_L_gain_208 : decode (AM.bytes M_L_gain) 208 = .ok (.invokestatic 72, 3) := by decide +kernel
theorem g_L_gain_211_3 : ab_oks M_L_gain [(211, .pop, 1, 0, 0, 0, .null), (212, .iinc 15 1, 3, 15, 0, 0, .int (nI (1))), (215, .goto (-27), 3, 188, 0, 0, .null)] = true := by decide +kernel
theorem g_L_gain_218_6 : ab_oks M_L_gain [(218, .aload 12, 2, 12, 0, 0, .null), (220, .iconst 4, 1, 0, 0, 0, .int (nI (4))), (221, .iload_n 0, 1, 0, 0, 0, .null), (222, .imul, 1, 0, 0, 0, .null), (223, .iconst 3, 1, 0, 0, 0, .int (nI (3))), (224, .iadd, 1, 0, 0, 0, .null)] = true := by decide +kernel
theorem ok_L_gain_225 : ab_ok M_L_gain (225, .iaload, 1, 0, 0, 0, .null) = true := by decide +kernel
theorem g_L_gain_226_6 : ab_oks M_L_gain [(226, .aload 6, 2, 6, 0, 0, .null), (228, .iconst 4, 1, 0, 0, 0, .int (nI (4))), (229, .iload_n 0, 1, 0, 0, 0, .null), (230, .imul, 1, 0, 0, 0, .null), (231, .iconst 3, 1, 0, 0, 0, .int (nI (3))), (232, .iadd, 1, 0, 0, 0, .null)] = true := by decide +kernel
theorem ok_L_gain_233 : ab_ok M_L_gain (233, .iaload, 1, 0, 0, 0, .null) = true := by decide +kernel
theorem g_L_gain_234_1 : ab_oks M_L_gain [(234, .isub, 1, 0, 0, 0, .null)] = true := by decide +kernel
theorem dc_L_gain_235 : decode (AM.bytes M_L_gain) 235 = .ok (.ireturn, 1) := by decide +kernel
set_option maxRecDepth 100000 in
set_option maxHeartbeats 4000000 in
theorem s_Lgain {E : AE} (d : Nat) (k : Nat) (v : Nat) (m : Nat) {nv : Nat} {nc : Nat} {nr : Nat}  {o0 a0 t0 p0 u0 : List AC} {vo ls ln lb cr ca lo st cc : Nat → Int32} (hex : E.ex = true) (hcl : E.caps.length = 5) (hc0 : cc 0 = nI nv) (h4 : nv ≤ 4) (hc1 : cc 1 = nI nc) (h2c : nc ≤ 2) (hc2 : cc 2 = nI nr) (h2r : nr ≤ 2) (hL : ∀ v, v < nv → vo (7 * v + 2) = nI (lL vo v) ∧ lL vo v ≤ 8) (hk : k < 2) (hv : v < 4) (hm : m < 1000) (hg0 : k < nc) (hg1 : ¬ 0 ≤ oI (onL vo (nI k) nv)) (hg2 : ¬ 0 ≤ vo (7 * v + 5)) (hg3 : ¬ 0 < vo (7 * v + 6)) (hg4 : ¬ cr (4 * k) < vo (7 * v + 1)) (hg5 : vo (7 * v + 3) ≤ cr (4 * k + 1)) : CT E M_L_gain (d + 3) [.int (nI (k)), .int (nI (v)), .int (nI (m)), .ref 16384, .ref 16385, .ref 16386, .ref 16388, .ref 16391, .ref 16392] (hp o0 a0 t0 p0 (la_ vo ls ln lb cr ca lo st cc) u0 []) (.inl (some (.int ((((L_Lgain_188 k v nv nc nr vo ls ln cr st cc m).2.2.2.1) ((4 * k) + 3)) - (cr ((4 * k) + 3)))))) (hp o0 a0 t0 p0 (la_ vo ls ln lb cr ca lo st cc) u0 (xs_ (co_ ((L_Lgain_188 k v nv nc nr vo ls ln cr st cc m).1) ((L_Lgain_188 k v nv nc nr vo ls ln cr st cc m).2.1) ((L_Lgain_188 k v nv nc nr vo ls ln cr st cc m).2.2.1) ((L_Lgain_188 k v nv nc nr vo ls ln cr st cc m).2.2.2.1) ((L_Lgain_188 k v nv nc nr vo ls ln cr st cc m).2.2.2.2.1) ((L_Lgain_188 k v nv nc nr vo ls ln cr st cc m).2.2.2.2.2)))) 6 115 := by
  refine CT.of (L := [some (.int (nI (k))), some (.int (nI (v))), some (.int (nI (m))), some (.ref 16384), some (.ref 16385), some (.ref 16386), some (.ref 16388), some (.ref 16391), some (.ref 16392), none, none, none, none, none, none, none]) rfl rfl ?_
  refine AR.run g_L_gain_0_1 1 [some (.int (nI (k))), some (.int (nI (v))), some (.int (nI (m))), some (.ref 16384), some (.ref 16385), some (.ref 16386), some (.ref 16388), some (.ref 16391), some (.ref 16392), none, none, none, none, none, none, none] [.int (nI (v))] _ [] rfl trivial ?_
  refine AR.geN (tgt := 6) (a := v) dc_L_gain_1 (by decide) (by first | rfl | (simp only [nI_add, pk_mul]; first | done | rfl)) (by omega) (fun c1_1 => ?_) (fun c1_1 => absurd c1_1 (fun q => q))
  refine AR.run g_L_gain_6_3 10 [some (.int (nI (k))), some (.int (nI (v))), some (.int (nI (m))), some (.ref 16384), some (.ref 16385), some (.ref 16386), some (.ref 16388), some (.ref 16391), some (.ref 16392), none, none, none, none, none, none, none] [.int (nI (1)), .ref 16392, .int (nI (k))] _ [] rfl trivial ?_
  refine AR.ald (n := 0) (e := 1) ok_L_gain_10 (by first | rfl | (simp only [nI_add, pk_mul]; first | done | rfl)) rfl (by omega) (by first | decide | omega) ?_
  refine AR.top hc1 ?_
  refine AR.ge2N (tgt := 83) (a := k) (b := nc) dc_L_gain_11 (by decide) (by first | rfl | (simp only [nI_add, pk_mul]; first | done | rfl)) (by first | rfl | (simp only [nI_add, pk_mul]; first | done | rfl)) (by omega) (by omega) (fun c11_2 => absurd c11_2 (by omega)) (fun c11_2 => ?_)
  refine AR.run g_L_gain_14_3 18 [some (.int (nI (k))), some (.int (nI (v))), some (.int (nI (m))), some (.ref 16384), some (.ref 16385), some (.ref 16386), some (.ref 16388), some (.ref 16391), some (.ref 16392), none, none, none, none, none, none, none] [.ref 16392, .ref 16384, .int (nI (k))] _ [] rfl trivial ?_
  refine AR.callS1 [.int (nI (k)), .ref 16384, .ref 16392] [] lk_L_8 dc_L_gain_18 (s_LonO _ (nI (k)) (by assumption) (by omega)) (by first | rfl | (simp only [nI_add, pk_mul]; first | done | rfl)) rfl ?_
  refine AR.ge (tgt := 83) dc_L_gain_21 (by decide) (fun c21_3 => absurd c21_3 hg1) (fun c21_3 => ?_)
  refine AR.run g_L_gain_24_6 31 [some (.int (nI (k))), some (.int (nI (v))), some (.int (nI (m))), some (.ref 16384), some (.ref 16385), some (.ref 16386), some (.ref 16388), some (.ref 16391), some (.ref 16392), none, none, none, none, none, none, none] [.int (((nI (7)) * (nI (v))) + (nI (5))), .ref 16384] _ [] rfl trivial ?_
  refine AR.ald (n := 0) (e := ((7 * v) + 5)) ok_L_gain_31 (by first | rfl | (simp only [nI_add, pk_mul]; first | done | rfl)) rfl (by omega) (by first | decide | omega) ?_
  refine AR.ge (tgt := 83) dc_L_gain_32 (by decide) (fun c32_4 => absurd c32_4 hg2) (fun c32_4 => ?_)
  refine AR.run g_L_gain_35_6 43 [some (.int (nI (k))), some (.int (nI (v))), some (.int (nI (m))), some (.ref 16384), some (.ref 16385), some (.ref 16386), some (.ref 16388), some (.ref 16391), some (.ref 16392), none, none, none, none, none, none, none] [.int (((nI (7)) * (nI (v))) + (nI (6))), .ref 16384] _ [] rfl trivial ?_
  refine AR.ald (n := 0) (e := ((7 * v) + 6)) ok_L_gain_43 (by first | rfl | (simp only [nI_add, pk_mul]; first | done | rfl)) rfl (by omega) (by first | decide | omega) ?_
  refine AR.gt (tgt := 83) dc_L_gain_44 (by decide) (fun c44_5 => absurd c44_5 hg3) (fun c44_5 => ?_)
  refine AR.run g_L_gain_47_6 54 [some (.int (nI (k))), some (.int (nI (v))), some (.int (nI (m))), some (.ref 16384), some (.ref 16385), some (.ref 16386), some (.ref 16388), some (.ref 16391), some (.ref 16392), none, none, none, none, none, none, none] [.int (((nI (7)) * (nI (v))) + (nI (1))), .ref 16384] _ [] rfl trivial ?_
  refine AR.ald (n := 0) (e := ((7 * v) + 1)) ok_L_gain_54 (by first | rfl | (simp only [nI_add, pk_mul]; first | done | rfl)) rfl (by omega) (by first | decide | omega) ?_
  refine AR.run g_L_gain_55_4 60 [some (.int (nI (k))), some (.int (nI (v))), some (.int (nI (m))), some (.ref 16384), some (.ref 16385), some (.ref 16386), some (.ref 16388), some (.ref 16391), some (.ref 16392), none, none, none, none, none, none, none] [.int ((nI (4)) * (nI (k))), .ref 16388, .int (vo ((7 * v) + 1))] _ [] rfl trivial ?_
  refine AR.ald (n := 0) (e := (4 * k)) ok_L_gain_60 (by first | rfl | (simp only [nI_add, pk_mul]; first | done | rfl)) rfl (by omega) (by first | decide | omega) ?_
  refine AR.gt2 (tgt := 83) dc_L_gain_61 (by decide) (fun c61_6 => absurd c61_6 hg4) (fun c61_6 => ?_)
  refine AR.run g_L_gain_64_6 71 [some (.int (nI (k))), some (.int (nI (v))), some (.int (nI (m))), some (.ref 16384), some (.ref 16385), some (.ref 16386), some (.ref 16388), some (.ref 16391), some (.ref 16392), none, none, none, none, none, none, none] [.int (((nI (7)) * (nI (v))) + (nI (3))), .ref 16384] _ [] rfl trivial ?_
  refine AR.ald (n := 0) (e := ((7 * v) + 3)) ok_L_gain_71 (by first | rfl | (simp only [nI_add, pk_mul]; first | done | rfl)) rfl (by omega) (by first | decide | omega) ?_
  refine AR.run g_L_gain_72_6 79 [some (.int (nI (k))), some (.int (nI (v))), some (.int (nI (m))), some (.ref 16384), some (.ref 16385), some (.ref 16386), some (.ref 16388), some (.ref 16391), some (.ref 16392), none, none, none, none, none, none, none] [.int (((nI (4)) * (nI (k))) + (nI (1))), .ref 16388, .int (vo ((7 * v) + 3))] _ [] rfl trivial ?_
  refine AR.ald (n := 0) (e := ((4 * k) + 1)) ok_L_gain_79 (by first | rfl | (simp only [nI_add, pk_mul]; first | done | rfl)) rfl (by omega) (by first | decide | omega) ?_
  refine AR.le2 (tgt := 85) dc_L_gain_80 (by decide) (fun c80_7 => ?_) (fun c80_7 => absurd c80_7 (fun q9 => q9 hg5))
  refine AR.run g_L_gain_85_1 87 [some (.int (nI (k))), some (.int (nI (v))), some (.int (nI (m))), some (.ref 16384), some (.ref 16385), some (.ref 16386), some (.ref 16388), some (.ref 16391), some (.ref 16392), none, none, none, none, none, none, none] [.int (nI (28))] _ [] rfl trivial ?_
  refine AR.newT (mc := 5) (ms := 87) (tl := []) (N := 28) 24576 hex hcl na_int dc_L_gain_87 rfl (by simp) (by first | rfl | (simp only [nI_add, pk_mul]; first | done | rfl)) (by decide) ?_
  refine AR.run g_L_gain_89_2 93 [some (.int (nI (k))), some (.int (nI (v))), some (.int (nI (m))), some (.ref 16384), some (.ref 16385), some (.ref 16386), some (.ref 16388), some (.ref 16391), some (.ref 16392), some (.ref 24576), none, none, none, none, none, none] [.int (nI (32))] _ [] rfl trivial ?_
  refine AR.newT (mc := 4) (ms := 55) (tl := [.inl (.inl (28, fun _ => 0))]) (N := 32) 24577 hex hcl na_int dc_L_gain_93 rfl (by simp) (by first | rfl | (simp only [nI_add, pk_mul]; first | done | rfl)) (by decide) ?_
  refine AR.run g_L_gain_95_2 99 [some (.int (nI (k))), some (.int (nI (v))), some (.int (nI (m))), some (.ref 16384), some (.ref 16385), some (.ref 16386), some (.ref 16388), some (.ref 16391), some (.ref 16392), some (.ref 24576), some (.ref 24577), none, none, none, none, none] [.int (nI (32))] _ [] rfl trivial ?_
  refine AR.newT (mc := 3) (ms := 23) (tl := [.inl (.inl (28, fun _ => 0)), .inl (.inl (32, fun _ => 0))]) (N := 32) 24578 hex hcl na_int dc_L_gain_99 rfl (by simp) (by first | rfl | (simp only [nI_add, pk_mul]; first | done | rfl)) (by decide) ?_
  refine AR.run g_L_gain_101_2 105 [some (.int (nI (k))), some (.int (nI (v))), some (.int (nI (m))), some (.ref 16384), some (.ref 16385), some (.ref 16386), some (.ref 16388), some (.ref 16391), some (.ref 16392), some (.ref 24576), some (.ref 24577), some (.ref 24578), none, none, none, none] [.int (nI (8))] _ [] rfl trivial ?_
  refine AR.newT (mc := 2) (ms := 15) (tl := [.inl (.inl (28, fun _ => 0)), .inl (.inl (32, fun _ => 0)), .inl (.inl (32, fun _ => 0))]) (N := 8) 24579 hex hcl na_int dc_L_gain_105 rfl (by simp) (by first | rfl | (simp only [nI_add, pk_mul]; first | done | rfl)) (by decide) ?_
  refine AR.run g_L_gain_107_2 111 [some (.int (nI (k))), some (.int (nI (v))), some (.int (nI (m))), some (.ref 16384), some (.ref 16385), some (.ref 16386), some (.ref 16388), some (.ref 16391), some (.ref 16392), some (.ref 24576), some (.ref 24577), some (.ref 24578), some (.ref 24579), none, none, none] [.int (nI (8))] _ [] rfl trivial ?_
  refine AR.newT (mc := 1) (ms := 7) (tl := [.inl (.inl (28, fun _ => 0)), .inl (.inl (32, fun _ => 0)), .inl (.inl (32, fun _ => 0)), .inl (.inl (8, fun _ => 0))]) (N := 8) 24580 hex hcl na_int dc_L_gain_111 rfl (by simp) (by first | rfl | (simp only [nI_add, pk_mul]; first | done | rfl)) (by decide) ?_
  refine AR.run g_L_gain_113_2 117 [some (.int (nI (k))), some (.int (nI (v))), some (.int (nI (m))), some (.ref 16384), some (.ref 16385), some (.ref 16386), some (.ref 16388), some (.ref 16391), some (.ref 16392), some (.ref 24576), some (.ref 24577), some (.ref 24578), some (.ref 24579), some (.ref 24580), none, none] [.int (nI (7))] _ [] rfl trivial ?_
  refine AR.newT (mc := 0) (ms := 0) (tl := [.inl (.inl (28, fun _ => 0)), .inl (.inl (32, fun _ => 0)), .inl (.inl (32, fun _ => 0)), .inl (.inl (8, fun _ => 0)), .inl (.inl (8, fun _ => 0))]) (N := 7) 24581 hex hcl na_int dc_L_gain_117 rfl (by simp) (by first | rfl | (simp only [nI_add, pk_mul]; first | done | rfl)) (by decide) ?_
  refine AR.cast (h1 := (hp o0 a0 t0 p0 (la_ vo ls ln lb cr ca lo st cc) u0 (xs_ (co_ (fun _ => 0) (fun _ => 0) (fun _ => 0) (fun _ => 0) (fun _ => 0) (fun _ => 0))))) rfl rfl rfl ?_
  refine AR.run g_L_gain_119_3 124 [some (.int (nI (k))), some (.int (nI (v))), some (.int (nI (m))), some (.ref 16384), some (.ref 16385), some (.ref 16386), some (.ref 16388), some (.ref 16391), some (.ref 16392), some (.ref 24576), some (.ref 24577), some (.ref 24578), some (.ref 24579), some (.ref 24580), some (.ref 24581), none] [.ref 16384, .ref 24576] _ [] rfl trivial ?_
  refine AR.callS0 [.ref 24576, .ref 16384] [] lk_L_68 dc_L_gain_124 (s_LsameV _  ) (by first | rfl | (simp only [nI_add, pk_mul]; first | done | rfl)) rfl ?_
  refine AR.run g_L_gain_127_2 131 [some (.int (nI (k))), some (.int (nI (v))), some (.int (nI (m))), some (.ref 16384), some (.ref 16385), some (.ref 16386), some (.ref 16388), some (.ref 16391), some (.ref 16392), some (.ref 24576), some (.ref 24577), some (.ref 24578), some (.ref 24579), some (.ref 24580), some (.ref 24581), none] [.ref 16385, .ref 24577] _ [] rfl trivial ?_
  refine AR.callS0 [.ref 24577, .ref 16385] [] lk_L_68 dc_L_gain_131 (s_LsameS _  ) (by first | rfl | (simp only [nI_add, pk_mul]; first | done | rfl)) rfl ?_
  refine AR.run g_L_gain_134_2 138 [some (.int (nI (k))), some (.int (nI (v))), some (.int (nI (m))), some (.ref 16384), some (.ref 16385), some (.ref 16386), some (.ref 16388), some (.ref 16391), some (.ref 16392), some (.ref 24576), some (.ref 24577), some (.ref 24578), some (.ref 24579), some (.ref 24580), some (.ref 24581), none] [.ref 16386, .ref 24578] _ [] rfl trivial ?_
  refine AR.callS0 [.ref 24578, .ref 16386] [] lk_L_68 dc_L_gain_138 (s_LsameN _  ) (by first | rfl | (simp only [nI_add, pk_mul]; first | done | rfl)) rfl ?_
  refine AR.run g_L_gain_141_2 145 [some (.int (nI (k))), some (.int (nI (v))), some (.int (nI (m))), some (.ref 16384), some (.ref 16385), some (.ref 16386), some (.ref 16388), some (.ref 16391), some (.ref 16392), some (.ref 24576), some (.ref 24577), some (.ref 24578), some (.ref 24579), some (.ref 24580), some (.ref 24581), none] [.ref 16388, .ref 24579] _ [] rfl trivial ?_
  refine AR.callS0 [.ref 24579, .ref 16388] [] lk_L_68 dc_L_gain_145 (s_LsameR _  ) (by first | rfl | (simp only [nI_add, pk_mul]; first | done | rfl)) rfl ?_
  refine AR.run g_L_gain_148_2 152 [some (.int (nI (k))), some (.int (nI (v))), some (.int (nI (m))), some (.ref 16384), some (.ref 16385), some (.ref 16386), some (.ref 16388), some (.ref 16391), some (.ref 16392), some (.ref 24576), some (.ref 24577), some (.ref 24578), some (.ref 24579), some (.ref 24580), some (.ref 24581), none] [.ref 16392, .ref 24581] _ [] rfl trivial ?_
  refine AR.callS0 [.ref 24581, .ref 16392] [] lk_L_68 dc_L_gain_152 (s_LsameC _  ) (by first | rfl | (simp only [nI_add, pk_mul]; first | done | rfl)) rfl ?_
  refine AR.run g_L_gain_155_7 164 [some (.int (nI (k))), some (.int (nI (v))), some (.int (nI (m))), some (.ref 16384), some (.ref 16385), some (.ref 16386), some (.ref 16388), some (.ref 16391), some (.ref 16392), some (.ref 24576), some (.ref 24577), some (.ref 24578), some (.ref 24579), some (.ref 24580), some (.ref 24581), none] [.int (nI (k)), .int (((nI (7)) * (nI (v))) + (nI (5))), .ref 24576] _ [] rfl trivial ?_
  refine AR.ast (n := 0) (e := ((7 * v) + 5)) (h1 := (hp o0 a0 t0 p0 (la_ vo ls ln lb cr ca lo st cc) u0 (xs_ (co_ (upd (F_LsameV_vo vo (fun _ => 0)) ((7 * v) + 5) (nI (k))) (F_LsameS_ls ls (fun _ => 0)) (F_LsameN_ln ln (fun _ => 0)) (F_LsameR_cr cr (fun _ => 0)) (fun _ => 0) (F_LsameC_cc cc (fun _ => 0)))))) ok_L_gain_164 (by first | rfl | (simp only [nI_add, pk_mul]; first | done | rfl)) rfl rfl (by omega) (by decide) rfl ?_
  refine AR.run g_L_gain_165_7 175 [some (.int (nI (k))), some (.int (nI (v))), some (.int (nI (m))), some (.ref 16384), some (.ref 16385), some (.ref 16386), some (.ref 16388), some (.ref 16391), some (.ref 16392), some (.ref 24576), some (.ref 24577), some (.ref 24578), some (.ref 24579), some (.ref 24580), some (.ref 24581), none] [.int (nI (1)), .int (((nI (7)) * (nI (v))) + (nI (6))), .ref 24576] _ [] rfl trivial ?_
  refine AR.ast (n := 0) (e := ((7 * v) + 6)) (h1 := (hp o0 a0 t0 p0 (la_ vo ls ln lb cr ca lo st cc) u0 (xs_ (co_ (upd (upd (F_LsameV_vo vo (fun _ => 0)) ((7 * v) + 5) (nI (k))) ((7 * v) + 6) (nI (1))) (F_LsameS_ls ls (fun _ => 0)) (F_LsameN_ln ln (fun _ => 0)) (F_LsameR_cr cr (fun _ => 0)) (fun _ => 0) (F_LsameC_cc cc (fun _ => 0)))))) ok_L_gain_175 (by first | rfl | (simp only [nI_add, pk_mul]; first | done | rfl)) rfl rfl (by omega) (by decide) rfl ?_
  refine AR.run g_L_gain_176_7 184 [some (.int (nI (k))), some (.int (nI (v))), some (.int (nI (m))), some (.ref 16384), some (.ref 16385), some (.ref 16386), some (.ref 16388), some (.ref 16391), some (.ref 16392), some (.ref 24576), some (.ref 24577), some (.ref 24578), some (.ref 24579), some (.ref 24580), some (.ref 24581), none] [.int (nI (0)), .int (((nI (4)) * (nI (k))) + (nI (2))), .ref 24579] _ [] rfl trivial ?_
  refine AR.ast (n := 0) (e := ((4 * k) + 2)) (h1 := (hp o0 a0 t0 p0 (la_ vo ls ln lb cr ca lo st cc) u0 (xs_ (co_ (upd (upd (F_LsameV_vo vo (fun _ => 0)) ((7 * v) + 5) (nI (k))) ((7 * v) + 6) (nI (1))) (F_LsameS_ls ls (fun _ => 0)) (F_LsameN_ln ln (fun _ => 0)) (upd (F_LsameR_cr cr (fun _ => 0)) ((4 * k) + 2) (nI (0))) (fun _ => 0) (F_LsameC_cc cc (fun _ => 0)))))) ok_L_gain_184 (by first | rfl | (simp only [nI_add, pk_mul]; first | done | rfl)) rfl rfl (by omega) (by decide) rfl ?_
  refine AR.run g_L_gain_185_2 188 [some (.int (nI (k))), some (.int (nI (v))), some (.int (nI (m))), some (.ref 16384), some (.ref 16385), some (.ref 16386), some (.ref 16388), some (.ref 16391), some (.ref 16392), some (.ref 24576), some (.ref 24577), some (.ref 24578), some (.ref 24579), some (.ref 24580), some (.ref 24581), some (.int (nI (0)))] [] _ [] rfl trivial ?_
  refine AR.cast (L' := [some (.int (nI (k))), some (.int (nI (v))), some (.int (nI (m))), some (.ref 16384), some (.ref 16385), some (.ref 16386), some (.ref 16388), some (.ref 16391), some (.ref 16392), some (.ref 24576), some (.ref 24577), some (.ref 24578), some (.ref 24579), some (.ref 24580), some (.ref 24581), some (.int (nI (0)))]) (by first | rfl | (rw [L_Lgain_188])) rfl (by first | rfl | (rw [L_Lgain_188])) (AR.loopN m (fun j188 => [some (.int (nI (k))), some (.int (nI (v))), some (.int (nI (m))), some (.ref 16384), some (.ref 16385), some (.ref 16386), some (.ref 16388), some (.ref 16391), some (.ref 16392), some (.ref 24576), some (.ref 24577), some (.ref 24578), some (.ref 24579), some (.ref 24580), some (.ref 24581), some (.int (nI (j188)))]) (fun j188 => (hp o0 a0 t0 p0 (la_ vo ls ln lb cr ca lo st cc) u0 (xs_ (co_ ((L_Lgain_188 k v nv nc nr vo ls ln cr st cc j188).1) ((L_Lgain_188 k v nv nc nr vo ls ln cr st cc j188).2.1) ((L_Lgain_188 k v nv nc nr vo ls ln cr st cc j188).2.2.1) ((L_Lgain_188 k v nv nc nr vo ls ln cr st cc j188).2.2.2.1) ((L_Lgain_188 k v nv nc nr vo ls ln cr st cc j188).2.2.2.2.1) ((L_Lgain_188 k v nv nc nr vo ls ln cr st cc j188).2.2.2.2.2))))) (fun j188 => True) (fun j188 hj188 hI188 ih188 => ?_) (fun hI188 => ?_) 0 (by omega) (by first | trivial | omega))
  · have hg188 := gn_I (nv := nv) (nc := nc) (nr := nr) (k := k) (v := v) (vo := vo) (ls := ls) (ln := ln) (cr := cr) (st := st) (cc := cc) j188
    have g0188 := (hg188.1 0 (by omega)).trans hc0
    have g1188 := (hg188.1 1 (by omega)).trans hc1
    have g2188 := (hg188.1 2 (by omega)).trans hc2
    have gL188 := lL_of h4 hL hg188.2
    refine AR.run g_L_gain_188_2 191 [some (.int (nI (k))), some (.int (nI (v))), some (.int (nI (m))), some (.ref 16384), some (.ref 16385), some (.ref 16386), some (.ref 16388), some (.ref 16391), some (.ref 16392), some (.ref 24576), some (.ref 24577), some (.ref 24578), some (.ref 24579), some (.ref 24580), some (.ref 24581), some (.int (nI (j188)))] [.int (nI (m)), .int (nI (j188))] _ [] rfl trivial ?_
    refine AR.ge2N (tgt := 218) (a := j188) (b := m) dc_L_gain_191 (by decide) (by first | rfl | (simp only [nI_add, pk_mul]; first | done | rfl)) (by first | rfl | (simp only [nI_add, pk_mul]; first | done | rfl)) (by omega) (by omega) (fun c191_9 => absurd c191_9 (by omega)) (fun c191_9 => ?_)
    refine AR.run g_L_gain_194_7 208 [some (.int (nI (k))), some (.int (nI (v))), some (.int (nI (m))), some (.ref 16384), some (.ref 16385), some (.ref 16386), some (.ref 16388), some (.ref 16391), some (.ref 16392), some (.ref 24576), some (.ref 24577), some (.ref 24578), some (.ref 24579), some (.ref 24580), some (.ref 24581), some (.int (nI (j188)))] [.ref 24581, .ref 16391, .ref 24580, .ref 24579, .ref 24578, .ref 24577, .ref 24576] _ [] rfl trivial ?_
    refine AR.callS1 [.ref 24576, .ref 24577, .ref 24578, .ref 24579, .ref 24580, .ref 16391, .ref 24581] [] lk_L_72 dc_L_gain_208 (s_LminuteC _  (by assumption) (by omega) (by assumption) (by omega) (by assumption) (by omega) gL188) (by first | rfl | (simp only [nI_add, pk_mul]; first | done | rfl)) rfl ?_
    refine AR.run g_L_gain_211_3 188 [some (.int (nI (k))), some (.int (nI (v))), some (.int (nI (m))), some (.ref 16384), some (.ref 16385), some (.ref 16386), some (.ref 16388), some (.ref 16391), some (.ref 16392), some (.ref 24576), some (.ref 24577), some (.ref 24578), some (.ref 24579), some (.ref 24580), some (.ref 24581), some (.int ((nI (j188)) + (nI (1))))] [] _ [] rfl trivial ?_
    have e10 : L_Lgain_188 k v nv nc nr vo ls ln cr st cc (j188 + 1) = (F_Lminute_vo nv nc ((L_Lgain_188 k v nv nc nr vo ls ln cr st cc j188).1) ((L_Lgain_188 k v nv nc nr vo ls ln cr st cc j188).2.1) ((L_Lgain_188 k v nv nc nr vo ls ln cr st cc j188).2.2.1) ((L_Lgain_188 k v nv nc nr vo ls ln cr st cc j188).2.2.2.1) st, F_Lminute_ls nv nc ((L_Lgain_188 k v nv nc nr vo ls ln cr st cc j188).1) ((L_Lgain_188 k v nv nc nr vo ls ln cr st cc j188).2.1) ((L_Lgain_188 k v nv nc nr vo ls ln cr st cc j188).2.2.1) ((L_Lgain_188 k v nv nc nr vo ls ln cr st cc j188).2.2.2.1) st, F_Lminute_ln nv nc ((L_Lgain_188 k v nv nc nr vo ls ln cr st cc j188).1) ((L_Lgain_188 k v nv nc nr vo ls ln cr st cc j188).2.1) ((L_Lgain_188 k v nv nc nr vo ls ln cr st cc j188).2.2.1) ((L_Lgain_188 k v nv nc nr vo ls ln cr st cc j188).2.2.2.1) st, F_Lminute_cr nv nc ((L_Lgain_188 k v nv nc nr vo ls ln cr st cc j188).1) ((L_Lgain_188 k v nv nc nr vo ls ln cr st cc j188).2.1) ((L_Lgain_188 k v nv nc nr vo ls ln cr st cc j188).2.2.1) ((L_Lgain_188 k v nv nc nr vo ls ln cr st cc j188).2.2.2.1) st, F_Lminute_ca nr ((L_Lgain_188 k v nv nc nr vo ls ln cr st cc j188).2.2.2.2.1), F_Lminute_cc ((L_Lgain_188 k v nv nc nr vo ls ln cr st cc j188).2.2.2.2.2)) := by rw [L_Lgain_188, B_Lgain_188]
    exact AR.cast (L' := [some (.int (nI (k))), some (.int (nI (v))), some (.int (nI (m))), some (.ref 16384), some (.ref 16385), some (.ref 16386), some (.ref 16388), some (.ref 16391), some (.ref 16392), some (.ref 24576), some (.ref 24577), some (.ref 24578), some (.ref 24579), some (.ref 24580), some (.ref 24581), some (.int (nI (j188 + 1)))]) (by first | rfl | (rw [nI_add]; done) | (rw [nI_add]; rfl)) rfl (by rw [e10]) (ih188 (by first | trivial | omega))
  · refine AR.run g_L_gain_188_2 191 [some (.int (nI (k))), some (.int (nI (v))), some (.int (nI (m))), some (.ref 16384), some (.ref 16385), some (.ref 16386), some (.ref 16388), some (.ref 16391), some (.ref 16392), some (.ref 24576), some (.ref 24577), some (.ref 24578), some (.ref 24579), some (.ref 24580), some (.ref 24581), some (.int (nI (m)))] [.int (nI (m)), .int (nI (m))] _ [] rfl trivial ?_
    refine AR.ge2N (tgt := 218) (a := m) (b := m) dc_L_gain_191 (by decide) (by first | rfl | (simp only [nI_add, pk_mul]; first | done | rfl)) (by first | rfl | (simp only [nI_add, pk_mul]; first | done | rfl)) (by omega) (by omega) (fun c191_11 => ?_) (fun c191_11 => absurd c191_11 (by omega))
    refine AR.run g_L_gain_218_6 225 [some (.int (nI (k))), some (.int (nI (v))), some (.int (nI (m))), some (.ref 16384), some (.ref 16385), some (.ref 16386), some (.ref 16388), some (.ref 16391), some (.ref 16392), some (.ref 24576), some (.ref 24577), some (.ref 24578), some (.ref 24579), some (.ref 24580), some (.ref 24581), some (.int (nI (m)))] [.int (((nI (4)) * (nI (k))) + (nI (3))), .ref 24579] _ [] rfl trivial ?_
    refine AR.ald (n := 0) (e := ((4 * k) + 3)) ok_L_gain_225 (by first | rfl | (simp only [nI_add, pk_mul]; first | done | rfl)) rfl (by omega) (by first | decide | omega) ?_
    refine AR.run g_L_gain_226_6 233 [some (.int (nI (k))), some (.int (nI (v))), some (.int (nI (m))), some (.ref 16384), some (.ref 16385), some (.ref 16386), some (.ref 16388), some (.ref 16391), some (.ref 16392), some (.ref 24576), some (.ref 24577), some (.ref 24578), some (.ref 24579), some (.ref 24580), some (.ref 24581), some (.int (nI (m)))] [.int (((nI (4)) * (nI (k))) + (nI (3))), .ref 16388, .int (((L_Lgain_188 k v nv nc nr vo ls ln cr st cc m).2.2.2.1) ((4 * k) + 3))] _ [] rfl trivial ?_
    refine AR.ald (n := 0) (e := ((4 * k) + 3)) ok_L_gain_233 (by first | rfl | (simp only [nI_add, pk_mul]; first | done | rfl)) rfl (by omega) (by first | decide | omega) ?_
    refine AR.run g_L_gain_234_1 235 [some (.int (nI (k))), some (.int (nI (v))), some (.int (nI (m))), some (.ref 16384), some (.ref 16385), some (.ref 16386), some (.ref 16388), some (.ref 16391), some (.ref 16392), some (.ref 24576), some (.ref 24577), some (.ref 24578), some (.ref 24579), some (.ref 24580), some (.ref 24581), some (.int (nI (m)))] [.int ((((L_Lgain_188 k v nv nc nr vo ls ln cr st cc m).2.2.2.1) ((4 * k) + 3)) - (cr ((4 * k) + 3)))] _ [] rfl trivial ?_
    exact AR.retI dc_L_gain_235 rfl rfl rfl
