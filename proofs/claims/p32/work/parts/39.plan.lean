theorem dn_step {n j : Nat} (h : j ≤ n) : nI (n - j) + -1 = nI n - nI (j + 1) := by
  rw [← pk_sub h, ← nI_add, i_m1]
  grind
theorem acc_tn {c : Nat} {tn trd tv tdg tf : Int32} {j : Nat} (hj : j < 1000) (h : isN tn ∧ tn.toNatClampNeg ≤ j) : isN (F_1accepts_tn c tn trd tv tdg tf) ∧ (F_1accepts_tn c tn trd tv tdg tf).toNatClampNeg ≤ j + 1 := by
  have h1 : isN tn ∧ tn.toNatClampNeg ≤ j + 1 := ⟨h.1, by omega⟩
  have h2 : isN (F_1keepPart_tn tn) ∧ (F_1keepPart_tn tn).toNatClampNeg ≤ j + 1 := by
    unfold F_1keepPart_tn
    rw [nI_add]
    have e : (nI (tn.toNatClampNeg + 1)).toNatClampNeg = tn.toNatClampNeg + 1 := nI_clamp (by omega)
    exact ⟨by unfold isN; rw [e], by rw [e]; omega⟩
  have h3 : isN (F_1acceptsDigit_tn (nI c - nI 48) tn trd tv tdg tf) ∧ (F_1acceptsDigit_tn (nI c - nI 48) tn trd tv tdg tf).toNatClampNeg ≤ j + 1 := by
    unfold F_1acceptsDigit_tn
    (repeat' split) <;> first | exact h1 | exact h2
  unfold F_1accepts_tn
  (repeat' split) <;> first | exact h1 | exact h3
def W_1read_12 (q : Nat) (tc : Nat → Int32) : Nat → Nat → (Nat → Int32) → (Int32) → (Int32) → (Int32) → (Int32) → (Int32) → (Int32) → (Int32) × (Nat → Int32) × (Int32) × (Int32) × (Int32) × (Int32) × (Int32) × (Int32)
  | 0, j12, y12_tp, y12_tn, y12_trd, y12_tv, y12_tdg, y12_tf, y12_tla => (nI (q), y12_tp, y12_tn, y12_trd, y12_tv, y12_tdg, y12_tf, y12_tla)
  | f12 + 1, j12, y12_tp, y12_tn, y12_trd, y12_tv, y12_tdg, y12_tf, y12_tla => if (F_1accepts ((tc j12).toNatClampNeg) y12_trd y12_tv y12_tdg y12_tf) = 0 then (nI (j12), F_1accepts_tp ((tc j12).toNatClampNeg) y12_tp y12_tn y12_trd y12_tv y12_tdg y12_tf y12_tla, F_1accepts_tn ((tc j12).toNatClampNeg) y12_tn y12_trd y12_tv y12_tdg y12_tf, F_1accepts_trd ((tc j12).toNatClampNeg) y12_trd y12_tv y12_tdg y12_tf, F_1accepts_tv ((tc j12).toNatClampNeg) y12_trd y12_tv y12_tdg y12_tf, F_1accepts_tdg ((tc j12).toNatClampNeg) y12_trd y12_tv y12_tdg y12_tf, F_1accepts_tf ((tc j12).toNatClampNeg) y12_trd y12_tv y12_tdg y12_tf, F_1accepts_tla ((tc j12).toNatClampNeg) y12_trd y12_tv y12_tdg y12_tf y12_tla) else W_1read_12 q tc f12 (j12 + 1) (F_1accepts_tp ((tc j12).toNatClampNeg) y12_tp y12_tn y12_trd y12_tv y12_tdg y12_tf y12_tla) (F_1accepts_tn ((tc j12).toNatClampNeg) y12_tn y12_trd y12_tv y12_tdg y12_tf) (F_1accepts_trd ((tc j12).toNatClampNeg) y12_trd y12_tv y12_tdg y12_tf) (F_1accepts_tv ((tc j12).toNatClampNeg) y12_trd y12_tv y12_tdg y12_tf) (F_1accepts_tdg ((tc j12).toNatClampNeg) y12_trd y12_tv y12_tdg y12_tf) (F_1accepts_tf ((tc j12).toNatClampNeg) y12_trd y12_tv y12_tdg y12_tf) (F_1accepts_tla ((tc j12).toNatClampNeg) y12_trd y12_tv y12_tdg y12_tf y12_tla)
def F_1read (q : Nat) (tc : Nat → Int32) (tp : Nat → Int32) (tf : Int32) (tla : Int32) : Int32 := ((W_1read_12 q tc q 0 tp (nI (0)) (F_1begin_trd (nI (0))) F_1begin_tv F_1begin_tdg tf tla).1)
def F_1read_tp (q : Nat) (tc : Nat → Int32) (tp : Nat → Int32) (tf : Int32) (tla : Int32) : Nat → Int32 := ((W_1read_12 q tc q 0 tp (nI (0)) (F_1begin_trd (nI (0))) F_1begin_tv F_1begin_tdg tf tla).2.1)
def F_1read_tn (q : Nat) (tc : Nat → Int32) (tp : Nat → Int32) (tf : Int32) (tla : Int32) : Int32 := ((W_1read_12 q tc q 0 tp (nI (0)) (F_1begin_trd (nI (0))) F_1begin_tv F_1begin_tdg tf tla).2.2.1)
def F_1read_trd (q : Nat) (tc : Nat → Int32) (tp : Nat → Int32) (tf : Int32) (tla : Int32) : Int32 := ((W_1read_12 q tc q 0 tp (nI (0)) (F_1begin_trd (nI (0))) F_1begin_tv F_1begin_tdg tf tla).2.2.2.1)
def F_1read_tv (q : Nat) (tc : Nat → Int32) (tp : Nat → Int32) (tf : Int32) (tla : Int32) : Int32 := ((W_1read_12 q tc q 0 tp (nI (0)) (F_1begin_trd (nI (0))) F_1begin_tv F_1begin_tdg tf tla).2.2.2.2.1)
def F_1read_tdg (q : Nat) (tc : Nat → Int32) (tp : Nat → Int32) (tf : Int32) (tla : Int32) : Int32 := ((W_1read_12 q tc q 0 tp (nI (0)) (F_1begin_trd (nI (0))) F_1begin_tv F_1begin_tdg tf tla).2.2.2.2.2.1)
def F_1read_tf (q : Nat) (tc : Nat → Int32) (tp : Nat → Int32) (tf : Int32) (tla : Int32) : Int32 := ((W_1read_12 q tc q 0 tp (nI (0)) (F_1begin_trd (nI (0))) F_1begin_tv F_1begin_tdg tf tla).2.2.2.2.2.2.1)
def F_1read_tla (q : Nat) (tc : Nat → Int32) (tp : Nat → Int32) (tf : Int32) (tla : Int32) : Int32 := ((W_1read_12 q tc q 0 tp (nI (0)) (F_1begin_trd (nI (0))) F_1begin_tv F_1begin_tdg tf tla).2.2.2.2.2.2.2)
theorem g_X1_read_0_5 : ab_oks M_X1_read [(0, .aload_n 0, 1, 0, 0, 0, .null), (1, .iconst 0, 1, 0, 0, 0, .int (nI (0))), (2, .putfield 28, 3, 1, 3, 125, .null), (5, .aload_n 0, 1, 0, 0, 0, .null), (6, .iconst 0, 1, 0, 0, 0, .int (nI (0)))] = true := by decide +kernel
theorem dc_X1_read_7 : decode (AM.bytes M_X1_read) 7 = .ok (.invokevirtual 46, 3) := by decide +kernel
theorem g_X1_read_10_2 : ab_oks M_X1_read [(10, .iconst 0, 1, 0, 0, 0, .int (nI (0))), (11, .istore_n 1, 1, 1, 0, 0, .null)] = true := by decide +kernel
theorem g_X1_read_12_3 : ab_oks M_X1_read [(12, .iload_n 1, 1, 1, 0, 0, .null), (13, .aload_n 0, 1, 0, 0, 0, .null), (14, .getfield 24, 3, 1, 2, 124, .null)] = true := by decide +kernel
theorem dc_X1_read_17 : decode (AM.bytes M_X1_read) 17 = .ok (.if_icmp .ge 23, 3) := by decide +kernel
theorem g_X1_read_40_2 : ab_oks M_X1_read [(40, .aload_n 0, 1, 0, 0, 0, .null), (41, .getfield 24, 3, 1, 2, 124, .null)] = true := by decide +kernel
theorem dc_X1_read_44 : decode (AM.bytes M_X1_read) 44 = .ok (.ireturn, 1) := by decide +kernel
theorem g_X1_read_20_3 : ab_oks M_X1_read [(20, .aload_n 0, 1, 0, 0, 0, .null), (21, .aload_n 0, 1, 0, 0, 0, .null), (22, .iload_n 1, 1, 1, 0, 0, .null)] = true := by decide +kernel
theorem lk_1_50 : ab_lkV "LeafCradles$BarText" 50 M_X1_codeAt 1 [704, 705, 706, 33, 707] = true := by decide +kernel
theorem dc_X1_read_23 : decode (AM.bytes M_X1_read) 23 = .ok (.invokevirtual 50, 3) := by decide +kernel
theorem lk_1_54 : ab_lkV "LeafCradles$BarText" 54 M_X1_accepts 1 [708, 710, 20, 33, 711] = true := by decide +kernel
theorem dc_X1_read_26 : decode (AM.bytes M_X1_read) 26 = .ok (.invokevirtual 54, 3) := by decide +kernel
theorem dc_X1_read_29 : decode (AM.bytes M_X1_read) 29 = .ok (.ifCond .ne 5, 3) := by decide +kernel
theorem g_X1_read_34_2 : ab_oks M_X1_read [(34, .iinc 1 1, 3, 1, 0, 0, .int (nI (1))), (37, .goto (-25), 3, 12, 0, 0, .null)] = true := by decide +kernel
theorem g_X1_read_32_1 : ab_oks M_X1_read [(32, .iload_n 1, 1, 1, 0, 0, .null)] = true := by decide +kernel
theorem dc_X1_read_33 : decode (AM.bytes M_X1_read) 33 = .ok (.ireturn, 1) := by decide +kernel
set_option maxRecDepth 100000 in
set_option maxHeartbeats 4000000 in
theorem s_1read {E : AE} (d : Nat) {q : Nat}  {o0 a0 p0 m0 u0 l0 : List AC} {tc tp : Nat → Int32} {tl_ tn trd tv tdg tf tla : Int32} (hln : tl_ = nI q) (hq : q ≤ 60) (hcd : ∀ k, k < q → isN (tc k) ∧ (tc k).toNatClampNeg < 127) : CT E M_X1_read (d + 4) [.ref 8192] (hp o0 a0 (te_ tc tp tl_ tn trd tv tdg tf tla) p0 m0 u0 l0) (.inl (some (.int (F_1read q tc tp tf tla)))) (hp o0 a0 (te_ tc (F_1read_tp q tc tp tf tla) tl_ (F_1read_tn q tc tp tf tla) (F_1read_trd q tc tp tf tla) (F_1read_tv q tc tp tf tla) (F_1read_tdg q tc tp tf tla) (F_1read_tf q tc tp tf tla) (F_1read_tla q tc tp tf tla)) p0 m0 u0 l0) 0 0 := by
  refine CT.of (L := [some (.ref 8192), none]) rfl rfl ?_
  refine AR.run g_X1_read_0_5 7 [some (.ref 8192), none] [.int (nI (0)), .ref 8192] (hp o0 a0 (te_ tc tp tl_ (nI (0)) trd tv tdg tf tla) p0 m0 u0 l0) [] rfl trivial ?_
  refine AR.callV0 (8192) [.int (nI (0))] [] lk_1_46 dc_X1_read_7 rfl rfl (s_1begin _ (nI (0)) ) (by first | rfl | (simp only [nI_add, pk_mul]; first | done | rfl)) rfl ?_
  refine AR.run g_X1_read_10_2 12 [some (.ref 8192), some (.int (nI (0)))] [] _ [] rfl trivial ?_
  have hW : ∀ (f12 j12 : Nat) (y12_tp : Nat → Int32) (y12_tn : Int32) (y12_trd : Int32) (y12_tv : Int32) (y12_tdg : Int32) (y12_tf : Int32) (y12_tla : Int32), j12 + f12 = q → (isN y12_tn ∧ (y12_tn).toNatClampNeg ≤ j12) → AR E M_X1_read (d + 4) 12 [some (.ref 8192), some (.int (nI (j12)))] [] (hp o0 a0 (te_ tc y12_tp tl_ y12_tn y12_trd y12_tv y12_tdg y12_tf y12_tla) p0 m0 u0 l0) (.inl (some (.int ((W_1read_12 q tc f12 j12 y12_tp y12_tn y12_trd y12_tv y12_tdg y12_tf y12_tla).1)))) (hp o0 a0 (te_ tc ((W_1read_12 q tc f12 j12 y12_tp y12_tn y12_trd y12_tv y12_tdg y12_tf y12_tla).2.1) tl_ ((W_1read_12 q tc f12 j12 y12_tp y12_tn y12_trd y12_tv y12_tdg y12_tf y12_tla).2.2.1) ((W_1read_12 q tc f12 j12 y12_tp y12_tn y12_trd y12_tv y12_tdg y12_tf y12_tla).2.2.2.1) ((W_1read_12 q tc f12 j12 y12_tp y12_tn y12_trd y12_tv y12_tdg y12_tf y12_tla).2.2.2.2.1) ((W_1read_12 q tc f12 j12 y12_tp y12_tn y12_trd y12_tv y12_tdg y12_tf y12_tla).2.2.2.2.2.1) ((W_1read_12 q tc f12 j12 y12_tp y12_tn y12_trd y12_tv y12_tdg y12_tf y12_tla).2.2.2.2.2.2.1) ((W_1read_12 q tc f12 j12 y12_tp y12_tn y12_trd y12_tv y12_tdg y12_tf y12_tla).2.2.2.2.2.2.2)) p0 m0 u0 l0) 0 0 := by
    intro f12
    induction f12 with
    | zero => 
      intro j12 y12_tp y12_tn y12_trd y12_tv y12_tdg y12_tf y12_tla hj12 hI12
      obtain ⟨hz8, hz9⟩ := id hI12
      refine AR.run g_X1_read_12_3 17 [some (.ref 8192), some (.int (nI (j12)))] [.int (tl_), .int (nI (j12))] _ [] rfl trivial ?_
      refine AR.top hln ?_
      refine AR.ge2N (tgt := 40) (a := j12) (b := q) dc_X1_read_17 (by decide) (by first | rfl | (simp only [nI_add, pk_mul]; first | done | rfl)) (by first | rfl | (simp only [nI_add, pk_mul]; first | done | rfl)) (by omega) (by omega) (fun c17_1 => ?_) (fun c17_1 => absurd c17_1 (by omega))
      refine AR.run g_X1_read_40_2 44 [some (.ref 8192), some (.int (nI (j12)))] [.int (tl_)] _ [] rfl trivial ?_
      refine AR.top hln ?_
      have e2 : W_1read_12 q tc 0 j12 y12_tp y12_tn y12_trd y12_tv y12_tdg y12_tf y12_tla = (nI (q), y12_tp, y12_tn, y12_trd, y12_tv, y12_tdg, y12_tf, y12_tla) := by rw [W_1read_12]
      rw [e2]
      exact AR.retI dc_X1_read_44 rfl rfl rfl
    | succ f12 ih12 => 
      intro j12 y12_tp y12_tn y12_trd y12_tv y12_tdg y12_tf y12_tla hj12 hI12
      obtain ⟨hz8, hz9⟩ := id hI12
      refine AR.run g_X1_read_12_3 17 [some (.ref 8192), some (.int (nI (j12)))] [.int (tl_), .int (nI (j12))] _ [] rfl trivial ?_
      refine AR.top hln ?_
      refine AR.ge2N (tgt := 40) (a := j12) (b := q) dc_X1_read_17 (by decide) (by first | rfl | (simp only [nI_add, pk_mul]; first | done | rfl)) (by first | rfl | (simp only [nI_add, pk_mul]; first | done | rfl)) (by omega) (by omega) (fun c17_3 => absurd c17_3 (by omega)) (fun c17_3 => ?_)
      refine AR.run g_X1_read_20_3 23 [some (.ref 8192), some (.int (nI (j12)))] [.int (nI (j12)), .ref 8192, .ref 8192] _ [] rfl trivial ?_
      refine AR.callV1 (8192) [.int (nI (j12))] [.ref 8192] lk_1_50 dc_X1_read_23 rfl rfl (s_1codeAt _ j12 (by assumption) (by omega) (by omega)) (by first | rfl | (simp only [nI_add, pk_mul]; first | done | rfl)) rfl ?_
      obtain ⟨hx9, hy9⟩ := hcd _ (show j12 < q by omega)
      refine AR.cast (st' := [.int (nI ((tc j12).toNatClampNeg)), .ref 8192]) rfl (by rw [← hx9]) rfl ?_
      refine AR.callV1 (8192) [.int (nI ((tc j12).toNatClampNeg))] [] lk_1_54 dc_X1_read_26 rfl rfl (s_1accepts _ ((tc j12).toNatClampNeg) (by omega) (by assumption) (by omega)) (by first | rfl | (simp only [nI_add, pk_mul]; first | done | rfl)) rfl ?_
      refine AR.ne (tgt := 34) dc_X1_read_29 (by decide) (fun c29_4 => ?_) (fun c29_4 => ?_)
      · refine AR.run g_X1_read_34_2 12 [some (.ref 8192), some (.int ((nI (j12)) + (nI (1))))] [] _ [] rfl trivial ?_
        have e5 : W_1read_12 q tc (f12 + 1) j12 y12_tp y12_tn y12_trd y12_tv y12_tdg y12_tf y12_tla = W_1read_12 q tc f12 (j12 + 1) (F_1accepts_tp ((tc j12).toNatClampNeg) y12_tp y12_tn y12_trd y12_tv y12_tdg y12_tf y12_tla) (F_1accepts_tn ((tc j12).toNatClampNeg) y12_tn y12_trd y12_tv y12_tdg y12_tf) (F_1accepts_trd ((tc j12).toNatClampNeg) y12_trd y12_tv y12_tdg y12_tf) (F_1accepts_tv ((tc j12).toNatClampNeg) y12_trd y12_tv y12_tdg y12_tf) (F_1accepts_tdg ((tc j12).toNatClampNeg) y12_trd y12_tv y12_tdg y12_tf) (F_1accepts_tf ((tc j12).toNatClampNeg) y12_trd y12_tv y12_tdg y12_tf) (F_1accepts_tla ((tc j12).toNatClampNeg) y12_trd y12_tv y12_tdg y12_tf y12_tla) := by rw [W_1read_12, if_neg c29_4]
        rw [e5]
        exact AR.cast (L' := [some (.ref 8192), some (.int (nI (j12 + 1)))]) (by first | rfl | rw [nI_add]) rfl rfl (ih12 (j12 + 1) (F_1accepts_tp ((tc j12).toNatClampNeg) y12_tp y12_tn y12_trd y12_tv y12_tdg y12_tf y12_tla) (F_1accepts_tn ((tc j12).toNatClampNeg) y12_tn y12_trd y12_tv y12_tdg y12_tf) (F_1accepts_trd ((tc j12).toNatClampNeg) y12_trd y12_tv y12_tdg y12_tf) (F_1accepts_tv ((tc j12).toNatClampNeg) y12_trd y12_tv y12_tdg y12_tf) (F_1accepts_tdg ((tc j12).toNatClampNeg) y12_trd y12_tv y12_tdg y12_tf) (F_1accepts_tf ((tc j12).toNatClampNeg) y12_trd y12_tv y12_tdg y12_tf) (F_1accepts_tla ((tc j12).toNatClampNeg) y12_trd y12_tv y12_tdg y12_tf y12_tla) (by omega) (acc_tn (by omega) hI12))
      · refine AR.run g_X1_read_32_1 33 [some (.ref 8192), some (.int (nI (j12)))] [.int (nI (j12))] _ [] rfl trivial ?_
        have e6 : W_1read_12 q tc (f12 + 1) j12 y12_tp y12_tn y12_trd y12_tv y12_tdg y12_tf y12_tla = (nI (j12), F_1accepts_tp ((tc j12).toNatClampNeg) y12_tp y12_tn y12_trd y12_tv y12_tdg y12_tf y12_tla, F_1accepts_tn ((tc j12).toNatClampNeg) y12_tn y12_trd y12_tv y12_tdg y12_tf, F_1accepts_trd ((tc j12).toNatClampNeg) y12_trd y12_tv y12_tdg y12_tf, F_1accepts_tv ((tc j12).toNatClampNeg) y12_trd y12_tv y12_tdg y12_tf, F_1accepts_tdg ((tc j12).toNatClampNeg) y12_trd y12_tv y12_tdg y12_tf, F_1accepts_tf ((tc j12).toNatClampNeg) y12_trd y12_tv y12_tdg y12_tf, F_1accepts_tla ((tc j12).toNatClampNeg) y12_trd y12_tv y12_tdg y12_tf y12_tla) := by rw [W_1read_12, if_pos c29_4]
        rw [e6]
        exact AR.retI dc_X1_read_33 rfl rfl rfl
  have e8_0 : F_1read q tc tp tf tla = ((W_1read_12 q tc q 0 tp (nI (0)) (F_1begin_trd (nI (0))) F_1begin_tv F_1begin_tdg tf tla).1) := by rw [F_1read]
  have e8_1 : F_1read_tp q tc tp tf tla = ((W_1read_12 q tc q 0 tp (nI (0)) (F_1begin_trd (nI (0))) F_1begin_tv F_1begin_tdg tf tla).2.1) := by rw [F_1read_tp]
  have e8_2 : F_1read_tn q tc tp tf tla = ((W_1read_12 q tc q 0 tp (nI (0)) (F_1begin_trd (nI (0))) F_1begin_tv F_1begin_tdg tf tla).2.2.1) := by rw [F_1read_tn]
  have e8_3 : F_1read_trd q tc tp tf tla = ((W_1read_12 q tc q 0 tp (nI (0)) (F_1begin_trd (nI (0))) F_1begin_tv F_1begin_tdg tf tla).2.2.2.1) := by rw [F_1read_trd]
  have e8_4 : F_1read_tv q tc tp tf tla = ((W_1read_12 q tc q 0 tp (nI (0)) (F_1begin_trd (nI (0))) F_1begin_tv F_1begin_tdg tf tla).2.2.2.2.1) := by rw [F_1read_tv]
  have e8_5 : F_1read_tdg q tc tp tf tla = ((W_1read_12 q tc q 0 tp (nI (0)) (F_1begin_trd (nI (0))) F_1begin_tv F_1begin_tdg tf tla).2.2.2.2.2.1) := by rw [F_1read_tdg]
  have e8_6 : F_1read_tf q tc tp tf tla = ((W_1read_12 q tc q 0 tp (nI (0)) (F_1begin_trd (nI (0))) F_1begin_tv F_1begin_tdg tf tla).2.2.2.2.2.2.1) := by rw [F_1read_tf]
  have e8_7 : F_1read_tla q tc tp tf tla = ((W_1read_12 q tc q 0 tp (nI (0)) (F_1begin_trd (nI (0))) F_1begin_tv F_1begin_tdg tf tla).2.2.2.2.2.2.2) := by rw [F_1read_tla]
  exact AR.end' (by first | rfl | (rw [e8_0])) (by first | rfl | (rw [e8_1, e8_2, e8_3, e8_4, e8_5, e8_6, e8_7])) (AR.cast rfl rfl rfl (hW q 0 tp (nI (0)) (F_1begin_trd (nI (0))) F_1begin_tv F_1begin_tdg tf tla (by omega) ⟨rfl, by decide⟩))
def F_2answer (w : Nat) (pc : Nat → Int32) (pm : Int32) : Int32 := if w = 0 then pm else (pc (1 * 4 + (w - 1)))
theorem g_X2_answer_0_1 : ab_oks M_X2_answer [(0, .iload_n 1, 1, 1, 0, 0, .null)] = true := by decide +kernel
theorem dc_X2_answer_1 : decode (AM.bytes M_X2_answer) 1 = .ok (.ifCond .ne 10, 3) := by decide +kernel
theorem g_X2_answer_11_6 : ab_oks M_X2_answer [(11, .aload_n 0, 1, 0, 0, 0, .null), (12, .getfield 23, 3, 2, 2, 160, .null), (15, .iconst 1, 1, 0, 0, 0, .int (nI (1))), (16, .iload_n 1, 1, 1, 0, 0, .null), (17, .iconst 1, 1, 0, 0, 0, .int (nI (1))), (18, .isub, 1, 0, 0, 0, .null)] = true := by decide +kernel
theorem lk_2_43 : ab_lkV "LeafCradles$LoadPlan" 43 M_X3_at 2 [548, 269, 270, 31, 271] = true := by decide +kernel
theorem dc_X2_answer_19 : decode (AM.bytes M_X2_answer) 19 = .ok (.invokevirtual 43, 3) := by decide +kernel
theorem dc_X2_answer_22 : decode (AM.bytes M_X2_answer) 22 = .ok (.ireturn, 1) := by decide +kernel
theorem g_X2_answer_4_3 : ab_oks M_X2_answer [(4, .aload_n 0, 1, 0, 0, 0, .null), (5, .getfield 26, 3, 2, 3, 161, .null), (8, .goto 14, 3, 22, 0, 0, .null)] = true := by decide +kernel
set_option maxRecDepth 100000 in
set_option maxHeartbeats 4000000 in
theorem s_2answer {E : AE} (d : Nat) (w : Nat)  {o0 a0 t0 m0 u0 l0 : List AC} {pg ph pc : Nat → Int32} {pm : Int32} (hw : w < 5) : CT E M_X2_answer (d + 1) [.ref 12288, .int (nI (w))] (hp o0 a0 t0 (pl pg ph pc pm) m0 u0 l0) (.inl (some (.int (F_2answer w pc pm)))) (hp o0 a0 t0 (pl pg ph pc pm) m0 u0 l0) 0 0 := by
  refine CT.of (L := [some (.ref 12288), some (.int (nI (w)))]) rfl rfl ?_
  refine AR.run g_X2_answer_0_1 1 [some (.ref 12288), some (.int (nI (w)))] [.int (nI (w))] _ [] rfl trivial ?_
  refine AR.neN (tgt := 11) (a := w) dc_X2_answer_1 (by decide) (by first | rfl | (simp only [nI_add, pk_mul]; first | done | rfl)) (by omega) (fun c1_1 => ?_) (fun c1_1 => ?_)
  · refine AR.run g_X2_answer_11_6 19 [some (.ref 12288), some (.int (nI (w)))] [.int ((nI (w)) - (nI (1))), .int (nI (1)), .ref 12295] _ [] rfl trivial ?_
    refine AR.cast (L' := [some (.ref 12288), some (.int (nI (w)))]) (st' := [.int (nI ((w - 1))), .int (nI (1)), .ref 12295]) rfl (by rw [pk_sub (by omega)]) rfl ?_
    refine AR.callV1 (12295) [.int (nI (1)), .int (nI ((w - 1)))] [] lk_2_43 dc_X2_answer_19 rfl rfl (s_3atG2 _ 1 (w - 1) (by omega) (by omega)) (by first | rfl | (simp only [nI_add, pk_mul]; first | done | rfl)) rfl ?_
    have e2_0 : F_2answer w pc pm = (pc (1 * 4 + (w - 1))) := by rw [F_2answer, if_neg (show ¬ (w = 0) from by omega)]
    exact AR.retI dc_X2_answer_22 rfl e2_0.symm rfl
  · refine AR.run g_X2_answer_4_3 22 [some (.ref 12288), some (.int (nI (w)))] [.int (pm)] _ [] rfl trivial ?_
    have e3_0 : F_2answer w pc pm = pm := by rw [F_2answer, if_pos (show w = 0 from by omega)]
    exact AR.retI dc_X2_answer_22 rfl e3_0.symm rfl
def F_2note_pc (s : Int32) (pc : Nat → Int32) (pm : Int32) : Nat → Int32 := if s ≤ pm then pc else (va_cpy pc pc (0 * 4) (1 * 4) 4)
def F_2note_pm (s : Int32) (pm : Int32) : Int32 := if s ≤ pm then pm else s
theorem g_X2_note_0_3 : ab_oks M_X2_note [(0, .iload_n 1, 1, 1, 0, 0, .null), (1, .aload_n 0, 1, 0, 0, 0, .null), (2, .getfield 26, 3, 2, 3, 161, .null)] = true := by decide +kernel
theorem dc_X2_note_5 : decode (AM.bytes M_X2_note) 5 = .ok (.if_icmp .le 17, 3) := by decide +kernel
theorem dc_X2_note_22 : decode (AM.bytes M_X2_note) 22 = .ok (.return_, 1) := by decide +kernel
theorem g_X2_note_8_7 : ab_oks M_X2_note [(8, .aload_n 0, 1, 0, 0, 0, .null), (9, .iload_n 1, 1, 1, 0, 0, .null), (10, .putfield 26, 3, 2, 3, 161, .null), (13, .aload_n 0, 1, 0, 0, 0, .null), (14, .getfield 23, 3, 2, 2, 160, .null), (17, .iconst 0, 1, 0, 0, 0, .int (nI (0))), (18, .iconst 1, 1, 0, 0, 0, .int (nI (1)))] = true := by decide +kernel
theorem lk_2_78 : ab_lkV "LeafCradles$LoadPlan" 78 M_X3_copyRow 2 [556, 453, 454, 31, 455] = true := by decide +kernel
theorem dc_X2_note_19 : decode (AM.bytes M_X2_note) 19 = .ok (.invokevirtual 78, 3) := by decide +kernel
set_option maxRecDepth 100000 in
set_option maxHeartbeats 4000000 in
theorem s_2note {E : AE} (d : Nat) (s : Int32)  {o0 a0 t0 m0 u0 l0 : List AC} {pg ph pc : Nat → Int32} {pm : Int32} : CT E M_X2_note (d + 1) [.ref 12288, .int (s)] (hp o0 a0 t0 (pl pg ph pc pm) m0 u0 l0) (.inl none) (hp o0 a0 t0 (pl pg ph (F_2note_pc s pc pm) (F_2note_pm s pm)) m0 u0 l0) 0 0 := by
  refine CT.of (L := [some (.ref 12288), some (.int (s))]) rfl rfl ?_
  refine AR.run g_X2_note_0_3 5 [some (.ref 12288), some (.int (s))] [.int (pm), .int (s)] _ [] rfl trivial ?_
  refine AR.le2 (tgt := 22) dc_X2_note_5 (by decide) (fun c5_1 => ?_) (fun c5_1 => ?_)
  · have e2_0 : F_2note_pc s pc pm = pc := by rw [F_2note_pc, if_pos c5_1]
    have e2_1 : F_2note_pm s pm = pm := by rw [F_2note_pm, if_pos c5_1]
    exact AR.retV dc_X2_note_22 rfl (by rw [e2_0, e2_1])
  · refine AR.run g_X2_note_8_7 19 [some (.ref 12288), some (.int (s))] [.int (nI (1)), .int (nI (0)), .ref 12295] (hp o0 a0 t0 (pl pg ph pc s) m0 u0 l0) [] rfl trivial ?_
    refine AR.callV0 (12295) [.int (nI (0)), .int (nI (1))] [] lk_2_78 dc_X2_note_19 rfl rfl (s_3copyRowG2 _ 0 1 (by omega) (by omega)) (by first | rfl | (simp only [nI_add, pk_mul]; first | done | rfl)) rfl ?_
    refine AR.cast (h1 := (hp o0 a0 t0 (pl pg ph (va_cpy pc pc (0 * 4) (1 * 4) 4) s) m0 u0 l0)) rfl rfl rfl ?_
    have e3_0 : F_2note_pc s pc pm = (va_cpy pc pc (0 * 4) (1 * 4) 4) := by rw [F_2note_pc, if_neg c5_1]
    have e3_1 : F_2note_pm s pm = s := by rw [F_2note_pm, if_neg c5_1]
    exact AR.retV dc_X2_note_22 rfl (by rw [e3_0, e3_1])
def F_2gainOf (c : Nat) (v : Nat) (m : Int32) (nv : Nat) (nc : Nat) (T : Nat → Nat → Int32) : Int32 := if nc ≤ c then (nI (0)) else if nv ≤ v then (nI (0)) else if (F_0isFree c T) = 0 then (nI (0)) else if (F_0isInItsBox v T) = 0 then (nI (0)) else if (F_0isLargeEnough c v T) = 0 then (nI (0)) else if (F_0isGentleEnough c v T) = 0 then (nI (0)) else (F_0scansIfThere c v (m - (nI (1))) T)
def F_2gainOf_T (c : Nat) (v : Nat) (m : Int32) (nv : Nat) (nc : Nat) (T : Nat → Nat → Int32) : Nat → Nat → Int32 := if nc ≤ c then T else if nv ≤ v then T else if (F_0isFree c T) = 0 then T else if (F_0isInItsBox v T) = 0 then T else if (F_0isLargeEnough c v T) = 0 then T else if (F_0isGentleEnough c v T) = 0 then T else (F_0scansIfThere_T c v (m - (nI (1))) T)
theorem g_X2_gainOf_0_3 : ab_oks M_X2_gainOf [(0, .iload_n 1, 1, 1, 0, 0, .null), (1, .aload_n 0, 1, 0, 0, 0, .null), (2, .iconst 1, 1, 0, 0, 0, .int (nI (1)))] = true := by decide +kernel
theorem lk_2_52 : ab_lkV "LeafCradles$LoadPlan" 52 M_X0_number 1 [537, 265, 266, 30, 267] = true := by decide +kernel
theorem dc_X2_gainOf_3 : decode (AM.bytes M_X2_gainOf) 3 = .ok (.invokevirtual 52, 3) := by decide +kernel
theorem dc_X2_gainOf_6 : decode (AM.bytes M_X2_gainOf) 6 = .ok (.if_icmp .ge 16, 3) := by decide +kernel
theorem g_X2_gainOf_22_3 : ab_oks M_X2_gainOf [(22, .iconst 0, 1, 0, 0, 0, .int (nI (0))), (23, .istore 4, 2, 4, 0, 0, .null), (25, .iload 4, 2, 4, 0, 0, .null)] = true := by decide +kernel
theorem dc_X2_gainOf_27 : decode (AM.bytes M_X2_gainOf) 27 = .ok (.ifCond .eq 19, 3) := by decide +kernel
theorem g_X2_gainOf_46_1 : ab_oks M_X2_gainOf [(46, .iconst 0, 1, 0, 0, 0, .int (nI (0)))] = true := by decide +kernel
theorem dc_X2_gainOf_47 : decode (AM.bytes M_X2_gainOf) 47 = .ok (.ireturn, 1) := by decide +kernel
theorem g_X2_gainOf_9_3 : ab_oks M_X2_gainOf [(9, .iload_n 2, 1, 2, 0, 0, .null), (10, .aload_n 0, 1, 0, 0, 0, .null), (11, .iconst 0, 1, 0, 0, 0, .int (nI (0)))] = true := by decide +kernel
theorem dc_X2_gainOf_12 : decode (AM.bytes M_X2_gainOf) 12 = .ok (.invokevirtual 52, 3) := by decide +kernel
theorem dc_X2_gainOf_15 : decode (AM.bytes M_X2_gainOf) 15 = .ok (.if_icmp .ge 7, 3) := by decide +kernel
theorem g_X2_gainOf_18_4 : ab_oks M_X2_gainOf [(18, .iconst 1, 1, 0, 0, 0, .int (nI (1))), (19, .goto 4, 3, 23, 0, 0, .null), (23, .istore 4, 2, 4, 0, 0, .null), (25, .iload 4, 2, 4, 0, 0, .null)] = true := by decide +kernel
theorem g_X2_gainOf_30_2 : ab_oks M_X2_gainOf [(30, .aload_n 0, 1, 0, 0, 0, .null), (31, .iload_n 1, 1, 1, 0, 0, .null)] = true := by decide +kernel
theorem lk_2_56 : ab_lkV "LeafCradles$LoadPlan" 56 M_X0_isFree 1 [538, 301, 302, 30, 303] = true := by decide +kernel
theorem dc_X2_gainOf_32 : decode (AM.bytes M_X2_gainOf) 32 = .ok (.invokevirtual 56, 3) := by decide +kernel
theorem dc_X2_gainOf_35 : decode (AM.bytes M_X2_gainOf) 35 = .ok (.ifCond .eq 11, 3) := by decide +kernel
theorem g_X2_gainOf_38_2 : ab_oks M_X2_gainOf [(38, .aload_n 0, 1, 0, 0, 0, .null), (39, .iload_n 2, 1, 2, 0, 0, .null)] = true := by decide +kernel
theorem lk_2_60 : ab_lkV "LeafCradles$LoadPlan" 60 M_X0_isInItsBox 1 [539, 540, 541, 30, 542] = true := by decide +kernel
theorem dc_X2_gainOf_40 : decode (AM.bytes M_X2_gainOf) 40 = .ok (.invokevirtual 60, 3) := by decide +kernel
theorem dc_X2_gainOf_43 : decode (AM.bytes M_X2_gainOf) 43 = .ok (.ifCond .ne 5, 3) := by decide +kernel
theorem g_X2_gainOf_48_3 : ab_oks M_X2_gainOf [(48, .aload_n 0, 1, 0, 0, 0, .null), (49, .iload_n 1, 1, 1, 0, 0, .null), (50, .iload_n 2, 1, 2, 0, 0, .null)] = true := by decide +kernel
theorem lk_2_63 : ab_lkV "LeafCradles$LoadPlan" 63 M_X0_isLargeEnough 2 [543, 514, 515, 30, 516] = true := by decide +kernel
theorem dc_X2_gainOf_51 : decode (AM.bytes M_X2_gainOf) 51 = .ok (.invokevirtual 63, 3) := by decide +kernel
theorem dc_X2_gainOf_54 : decode (AM.bytes M_X2_gainOf) 54 = .ok (.ifCond .eq 12, 3) := by decide +kernel
theorem g_X2_gainOf_66_1 : ab_oks M_X2_gainOf [(66, .iconst 0, 1, 0, 0, 0, .int (nI (0)))] = true := by decide +kernel
theorem dc_X2_gainOf_67 : decode (AM.bytes M_X2_gainOf) 67 = .ok (.ireturn, 1) := by decide +kernel
theorem g_X2_gainOf_57_3 : ab_oks M_X2_gainOf [(57, .aload_n 0, 1, 0, 0, 0, .null), (58, .iload_n 1, 1, 1, 0, 0, .null), (59, .iload_n 2, 1, 2, 0, 0, .null)] = true := by decide +kernel
theorem lk_2_67 : ab_lkV "LeafCradles$LoadPlan" 67 M_X0_isGentleEnough 2 [544, 393, 394, 30, 395] = true := by decide +kernel
theorem dc_X2_gainOf_60 : decode (AM.bytes M_X2_gainOf) 60 = .ok (.invokevirtual 67, 3) := by decide +kernel
theorem dc_X2_gainOf_63 : decode (AM.bytes M_X2_gainOf) 63 = .ok (.ifCond .ne 5, 3) := by decide +kernel
theorem g_X2_gainOf_68_6 : ab_oks M_X2_gainOf [(68, .aload_n 0, 1, 0, 0, 0, .null), (69, .iload_n 1, 1, 1, 0, 0, .null), (70, .iload_n 2, 1, 2, 0, 0, .null), (71, .iload_n 3, 1, 3, 0, 0, .null), (72, .iconst 1, 1, 0, 0, 0, .int (nI (1))), (73, .isub, 1, 0, 0, 0, .null)] = true := by decide +kernel
theorem lk_2_70 : ab_lkV "LeafCradles$LoadPlan" 70 M_X0_scansIfThere 3 [545, 445, 446, 30, 447] = true := by decide +kernel
theorem dc_X2_gainOf_74 : decode (AM.bytes M_X2_gainOf) 74 = .ok (.invokevirtual 70, 3) := by decide +kernel
theorem dc_X2_gainOf_77 : decode (AM.bytes M_X2_gainOf) 77 = .ok (.ireturn, 1) := by decide +kernel
set_option maxRecDepth 100000 in
set_option maxHeartbeats 4000000 in
theorem s_2gainOf {E : AE} (d : Nat) (c : Nat) (v : Nat) (m : Int32) {nv : Nat} {nc : Nat} {nr : Nat} {ne : Nat}  {o0 t0 p0 m0 u0 l0 : List AC} {T K : Nat → Nat → Int32} {os sc : Int32} (hT : TI T nv nc nr ne) (hc : c < 4) (hv : v < 12) : CT E M_X2_gainOf (d + 4) [.ref 4097, .int (nI (c)), .int (nI (v)), .int (m)] (hp o0 (ar T K os sc) t0 p0 m0 u0 l0) (.inl (some (.int (F_2gainOf c v m nv nc T)))) (hp o0 (ar (F_2gainOf_T c v m nv nc T) K os sc) t0 p0 m0 u0 l0) 0 0 := by
  obtain ⟨⟨hnv, h12⟩, ⟨hnc, h4⟩, ⟨hnr, h3⟩, ⟨hne, h60⟩, hLT, hHT⟩ := id hT
  refine CT.of (L := [some (.ref 4097), some (.int (nI (c))), some (.int (nI (v))), some (.int (m)), none]) rfl rfl ?_
  refine AR.run g_X2_gainOf_0_3 3 [some (.ref 4097), some (.int (nI (c))), some (.int (nI (v))), some (.int (m)), none] [.int (nI (1)), .ref 4097, .int (nI (c))] _ [] rfl trivial ?_
  refine AR.callV1 (4097) [.int (nI (1))] [.int (nI (c))] lk_2_52 dc_X2_gainOf_3 rfl rfl (s_0number _ 1 (by omega)) (by first | rfl | (simp only [nI_add, pk_mul]; first | done | rfl)) rfl ?_
  refine AR.top hT.2.1.1 ?_
  refine AR.ge2N (tgt := 22) (a := c) (b := nc) dc_X2_gainOf_6 (by decide) (by first | rfl | (simp only [nI_add, pk_mul]; first | done | rfl)) (by first | rfl | (simp only [nI_add, pk_mul]; first | done | rfl)) (by omega) (by omega) (fun c6_1 => ?_) (fun c6_1 => ?_)
  · refine AR.run g_X2_gainOf_22_3 27 [some (.ref 4097), some (.int (nI (c))), some (.int (nI (v))), some (.int (m)), some (.int (nI (0)))] [.int (nI (0))] _ [] rfl trivial ?_
    refine AR.eqN (tgt := 46) (a := 0) dc_X2_gainOf_27 (by decide) (by first | rfl | (simp only [nI_add, pk_mul]; first | done | rfl)) (by omega) (fun c27_2 => ?_) (fun c27_2 => absurd c27_2 (by omega))
    refine AR.run g_X2_gainOf_46_1 47 [some (.ref 4097), some (.int (nI (c))), some (.int (nI (v))), some (.int (m)), some (.int (nI (0)))] [.int (nI (0))] _ [] rfl trivial ?_
    have e3_0 : F_2gainOf c v m nv nc T = (nI (0)) := by rw [F_2gainOf, if_pos (show nc ≤ c from by omega)]
    have e3_1 : F_2gainOf_T c v m nv nc T = T := by rw [F_2gainOf_T, if_pos (show nc ≤ c from by omega)]
    exact AR.retI dc_X2_gainOf_47 rfl e3_0.symm (by rw [e3_1])
  · refine AR.run g_X2_gainOf_9_3 12 [some (.ref 4097), some (.int (nI (c))), some (.int (nI (v))), some (.int (m)), none] [.int (nI (0)), .ref 4097, .int (nI (v))] _ [] rfl trivial ?_
    refine AR.callV1 (4097) [.int (nI (0))] [.int (nI (v))] lk_2_52 dc_X2_gainOf_12 rfl rfl (s_0number _ 0 (by omega)) (by first | rfl | (simp only [nI_add, pk_mul]; first | done | rfl)) rfl ?_
    refine AR.top hT.1.1 ?_
    refine AR.ge2N (tgt := 22) (a := v) (b := nv) dc_X2_gainOf_15 (by decide) (by first | rfl | (simp only [nI_add, pk_mul]; first | done | rfl)) (by first | rfl | (simp only [nI_add, pk_mul]; first | done | rfl)) (by omega) (by omega) (fun c15_4 => ?_) (fun c15_4 => ?_)
    · refine AR.run g_X2_gainOf_22_3 27 [some (.ref 4097), some (.int (nI (c))), some (.int (nI (v))), some (.int (m)), some (.int (nI (0)))] [.int (nI (0))] _ [] rfl trivial ?_
      refine AR.eqN (tgt := 46) (a := 0) dc_X2_gainOf_27 (by decide) (by first | rfl | (simp only [nI_add, pk_mul]; first | done | rfl)) (by omega) (fun c27_5 => ?_) (fun c27_5 => absurd c27_5 (by omega))
      refine AR.run g_X2_gainOf_46_1 47 [some (.ref 4097), some (.int (nI (c))), some (.int (nI (v))), some (.int (m)), some (.int (nI (0)))] [.int (nI (0))] _ [] rfl trivial ?_
      have e6_0 : F_2gainOf c v m nv nc T = (nI (0)) := by rw [F_2gainOf, if_neg (show ¬ (nc ≤ c) from by omega), if_pos (show nv ≤ v from by omega)]
      have e6_1 : F_2gainOf_T c v m nv nc T = T := by rw [F_2gainOf_T, if_neg (show ¬ (nc ≤ c) from by omega), if_pos (show nv ≤ v from by omega)]
      exact AR.retI dc_X2_gainOf_47 rfl e6_0.symm (by rw [e6_1])
    · refine AR.run g_X2_gainOf_18_4 27 [some (.ref 4097), some (.int (nI (c))), some (.int (nI (v))), some (.int (m)), some (.int (nI (1)))] [.int (nI (1))] _ [] rfl trivial ?_
      refine AR.eqN (tgt := 46) (a := 1) dc_X2_gainOf_27 (by decide) (by first | rfl | (simp only [nI_add, pk_mul]; first | done | rfl)) (by omega) (fun c27_7 => absurd c27_7 (by omega)) (fun c27_7 => ?_)
      refine AR.run g_X2_gainOf_30_2 32 [some (.ref 4097), some (.int (nI (c))), some (.int (nI (v))), some (.int (m)), some (.int (nI (1)))] [.int (nI (c)), .ref 4097] _ [] rfl trivial ?_
      refine AR.callV1 (4097) [.int (nI (c))] [] lk_2_56 dc_X2_gainOf_32 rfl rfl (s_0isFree _ c (by omega)) (by first | rfl | (simp only [nI_add, pk_mul]; first | done | rfl)) rfl ?_
      refine AR.eq (tgt := 46) dc_X2_gainOf_35 (by decide) (fun c35_8 => ?_) (fun c35_8 => ?_)
      · refine AR.run g_X2_gainOf_46_1 47 [some (.ref 4097), some (.int (nI (c))), some (.int (nI (v))), some (.int (m)), some (.int (nI (1)))] [.int (nI (0))] _ [] rfl trivial ?_
        have e9_0 : F_2gainOf c v m nv nc T = (nI (0)) := by rw [F_2gainOf, if_neg (show ¬ (nc ≤ c) from by omega), if_neg (show ¬ (nv ≤ v) from by omega), if_pos c35_8]
        have e9_1 : F_2gainOf_T c v m nv nc T = T := by rw [F_2gainOf_T, if_neg (show ¬ (nc ≤ c) from by omega), if_neg (show ¬ (nv ≤ v) from by omega), if_pos c35_8]
        exact AR.retI dc_X2_gainOf_47 rfl e9_0.symm (by rw [e9_1])
      · refine AR.run g_X2_gainOf_38_2 40 [some (.ref 4097), some (.int (nI (c))), some (.int (nI (v))), some (.int (m)), some (.int (nI (1)))] [.int (nI (v)), .ref 4097] _ [] rfl trivial ?_
        refine AR.callV1 (4097) [.int (nI (v))] [] lk_2_60 dc_X2_gainOf_40 rfl rfl (s_0isInItsBox _ v (by omega)) (by first | rfl | (simp only [nI_add, pk_mul]; first | done | rfl)) rfl ?_
        refine AR.ne (tgt := 48) dc_X2_gainOf_43 (by decide) (fun c43_10 => ?_) (fun c43_10 => ?_)
        · refine AR.run g_X2_gainOf_48_3 51 [some (.ref 4097), some (.int (nI (c))), some (.int (nI (v))), some (.int (m)), some (.int (nI (1)))] [.int (nI (v)), .int (nI (c)), .ref 4097] _ [] rfl trivial ?_
          refine AR.callV1 (4097) [.int (nI (c)), .int (nI (v))] [] lk_2_63 dc_X2_gainOf_51 rfl rfl (s_0isLargeEnough _ c v (by omega) (by omega)) (by first | rfl | (simp only [nI_add, pk_mul]; first | done | rfl)) rfl ?_
          refine AR.eq (tgt := 66) dc_X2_gainOf_54 (by decide) (fun c54_11 => ?_) (fun c54_11 => ?_)
          · refine AR.run g_X2_gainOf_66_1 67 [some (.ref 4097), some (.int (nI (c))), some (.int (nI (v))), some (.int (m)), some (.int (nI (1)))] [.int (nI (0))] _ [] rfl trivial ?_
            have e12_0 : F_2gainOf c v m nv nc T = (nI (0)) := by rw [F_2gainOf, if_neg (show ¬ (nc ≤ c) from by omega), if_neg (show ¬ (nv ≤ v) from by omega), if_neg c35_8, if_neg c43_10, if_pos c54_11]
            have e12_1 : F_2gainOf_T c v m nv nc T = T := by rw [F_2gainOf_T, if_neg (show ¬ (nc ≤ c) from by omega), if_neg (show ¬ (nv ≤ v) from by omega), if_neg c35_8, if_neg c43_10, if_pos c54_11]
            exact AR.retI dc_X2_gainOf_67 rfl e12_0.symm (by rw [e12_1])
          · refine AR.run g_X2_gainOf_57_3 60 [some (.ref 4097), some (.int (nI (c))), some (.int (nI (v))), some (.int (m)), some (.int (nI (1)))] [.int (nI (v)), .int (nI (c)), .ref 4097] _ [] rfl trivial ?_
            refine AR.callV1 (4097) [.int (nI (c)), .int (nI (v))] [] lk_2_67 dc_X2_gainOf_60 rfl rfl (s_0isGentleEnough _ c v (by omega) (by omega)) (by first | rfl | (simp only [nI_add, pk_mul]; first | done | rfl)) rfl ?_
            refine AR.ne (tgt := 68) dc_X2_gainOf_63 (by decide) (fun c63_13 => ?_) (fun c63_13 => ?_)
            · refine AR.run g_X2_gainOf_68_6 74 [some (.ref 4097), some (.int (nI (c))), some (.int (nI (v))), some (.int (m)), some (.int (nI (1)))] [.int (m - (nI (1))), .int (nI (v)), .int (nI (c)), .ref 4097] _ [] rfl trivial ?_
              refine AR.callV1 (4097) [.int (nI (c)), .int (nI (v)), .int (m - (nI (1)))] [] lk_2_70 dc_X2_gainOf_74 rfl rfl (s_0scansIfThere _ c v (m - (nI (1))) (by omega) (by omega) (by first | assumption | exact hLT _ (by omega))) (by first | rfl | (simp only [nI_add, pk_mul]; first | done | rfl)) rfl ?_
              have e14_0 : F_2gainOf c v m nv nc T = (F_0scansIfThere c v (m - (nI (1))) T) := by rw [F_2gainOf, if_neg (show ¬ (nc ≤ c) from by omega), if_neg (show ¬ (nv ≤ v) from by omega), if_neg c35_8, if_neg c43_10, if_neg c54_11, if_neg c63_13]
              have e14_1 : F_2gainOf_T c v m nv nc T = (F_0scansIfThere_T c v (m - (nI (1))) T) := by rw [F_2gainOf_T, if_neg (show ¬ (nc ≤ c) from by omega), if_neg (show ¬ (nv ≤ v) from by omega), if_neg c35_8, if_neg c43_10, if_neg c54_11, if_neg c63_13]
              exact AR.retI dc_X2_gainOf_77 rfl e14_0.symm (by rw [e14_1])
            · refine AR.run g_X2_gainOf_66_1 67 [some (.ref 4097), some (.int (nI (c))), some (.int (nI (v))), some (.int (m)), some (.int (nI (1)))] [.int (nI (0))] _ [] rfl trivial ?_
              have e15_0 : F_2gainOf c v m nv nc T = (nI (0)) := by rw [F_2gainOf, if_neg (show ¬ (nc ≤ c) from by omega), if_neg (show ¬ (nv ≤ v) from by omega), if_neg c35_8, if_neg c43_10, if_neg c54_11, if_pos c63_13]
              have e15_1 : F_2gainOf_T c v m nv nc T = T := by rw [F_2gainOf_T, if_neg (show ¬ (nc ≤ c) from by omega), if_neg (show ¬ (nv ≤ v) from by omega), if_neg c35_8, if_neg c43_10, if_neg c54_11, if_pos c63_13]
              exact AR.retI dc_X2_gainOf_67 rfl e15_0.symm (by rw [e15_1])
        · refine AR.run g_X2_gainOf_46_1 47 [some (.ref 4097), some (.int (nI (c))), some (.int (nI (v))), some (.int (m)), some (.int (nI (1)))] [.int (nI (0))] _ [] rfl trivial ?_
          have e16_0 : F_2gainOf c v m nv nc T = (nI (0)) := by rw [F_2gainOf, if_neg (show ¬ (nc ≤ c) from by omega), if_neg (show ¬ (nv ≤ v) from by omega), if_neg c35_8, if_pos c43_10]
          have e16_1 : F_2gainOf_T c v m nv nc T = T := by rw [F_2gainOf_T, if_neg (show ¬ (nc ≤ c) from by omega), if_neg (show ¬ (nv ≤ v) from by omega), if_neg c35_8, if_pos c43_10]
          exact AR.retI dc_X2_gainOf_47 rfl e16_0.symm (by rw [e16_1])
def F_2fill4_pc (s : Int32) (pc : Nat → Int32) (pm : Int32) : Nat → Int32 := (F_2note_pc s pc pm)
def F_2fill4_pm (s : Int32) (pm : Int32) : Int32 := (F_2note_pm s pm)
theorem g_X2_fill_0_2 : ab_oks M_X2_fill [(0, .iload_n 1, 1, 1, 0, 0, .null), (1, .iconst 4, 1, 0, 0, 0, .int (nI (4)))] = true := by decide +kernel
theorem dc_X2_fill_2 : decode (AM.bytes M_X2_fill) 2 = .ok (.if_icmp .lt 9, 3) := by decide +kernel
theorem g_X2_fill_5_2 : ab_oks M_X2_fill [(5, .aload_n 0, 1, 0, 0, 0, .null), (6, .iload_n 3, 1, 3, 0, 0, .null)] = true := by decide +kernel
theorem lk_2_74 : ab_lkV "LeafCradles$LoadPlan" 74 M_X2_note 1 [552, 554, 16, 34, 555] = true := by decide +kernel
theorem dc_X2_fill_7 : decode (AM.bytes M_X2_fill) 7 = .ok (.invokevirtual 74, 3) := by decide +kernel
theorem dc_X2_fill_10 : decode (AM.bytes M_X2_fill) 10 = .ok (.return_, 1) := by decide +kernel
set_option maxRecDepth 100000 in
set_option maxHeartbeats 4000000 in
theorem s_2fill4 {E : AE} (d : Nat) (u : Int32) (s : Int32)  {o0 a0 t0 m0 u0 l0 : List AC} {pg ph pc : Nat → Int32} {pm : Int32} : CT E M_X2_fill (d + 2) [.ref 12288, .int (nI (4)), .int (u), .int (s)] (hp o0 a0 t0 (pl pg ph pc pm) m0 u0 l0) (.inl none) (hp o0 a0 t0 (pl pg ph (F_2fill4_pc s pc pm) (F_2fill4_pm s pm)) m0 u0 l0) 0 0 := by
  refine CT.of (L := [some (.ref 12288), some (.int (nI (4))), some (.int (u)), some (.int (s)), none, none]) rfl rfl ?_
  refine AR.run g_X2_fill_0_2 2 [some (.ref 12288), some (.int (nI (4))), some (.int (u)), some (.int (s)), none, none] [.int (nI (4)), .int (nI (4))] _ [] rfl trivial ?_
  refine AR.lt2N (tgt := 11) (a := 4) (b := 4) dc_X2_fill_2 (by decide) (by first | rfl | (simp only [nI_add, pk_mul]; first | done | rfl)) (by first | rfl | (simp only [nI_add, pk_mul]; first | done | rfl)) (by omega) (by omega) (fun c2_1 => absurd c2_1 (by omega)) (fun c2_1 => ?_)
  refine AR.run g_X2_fill_5_2 7 [some (.ref 12288), some (.int (nI (4))), some (.int (u)), some (.int (s)), none, none] [.int (s), .ref 12288] _ [] rfl trivial ?_
  refine AR.callV0 (12288) [.int (s)] [] lk_2_74 dc_X2_fill_7 rfl rfl (s_2note _ s ) (by first | rfl | (simp only [nI_add, pk_mul]; first | done | rfl)) rfl ?_
  have e2_0 : F_2fill4_pc s pc pm = (F_2note_pc s pc pm) := by rw [F_2fill4_pc]
  have e2_1 : F_2fill4_pm s pm = (F_2note_pm s pm) := by rw [F_2fill4_pm]
  exact AR.retV dc_X2_fill_10 rfl (by rw [e2_0, e2_1])
def B_2fill3_52 (u : Int32) (s : Int32) (pg : Nat → Int32) (j52 : Nat) (y52_pl2 : Nat → Int32) (y52_pl3 : Int32) : (Nat → Int32) × (Int32) := if (pg (3 * 12 + j52)) ≤ 0 then (y52_pl2, y52_pl3) else if (u &&& ((nI (1)) <<< ((nI (j52)) &&& 31))) = 0 then (F_2fill4_pc (s + (pg (3 * 12 + j52))) (upd y52_pl2 ((0 * 4) + 3) (nI (j52))) y52_pl3, F_2fill4_pm (s + (pg (3 * 12 + j52))) y52_pl3) else (y52_pl2, y52_pl3)
def L_2fill3_52 (u : Int32) (s : Int32) (pg : Nat → Int32) (pc : Nat → Int32) (pm : Int32) : Nat → (Nat → Int32) × (Int32)
  | 0 => (F_2fill4_pc s (upd pc ((0 * 4) + 3) (-1)) pm, F_2fill4_pm s pm)
  | j + 1 => B_2fill3_52 u s pg j ((L_2fill3_52 u s pg pc pm  j).1) ((L_2fill3_52 u s pg pc pm  j).2)
def F_2fill3_pc (u : Int32) (s : Int32) (pg : Nat → Int32) (ph : Nat → Int32) (pc : Nat → Int32) (pm : Int32) : Nat → Int32 := if pm < (s + (ph 3)) then ((L_2fill3_52 u s pg pc pm 12).1) else pc
def F_2fill3_pm (u : Int32) (s : Int32) (pg : Nat → Int32) (ph : Nat → Int32) (pc : Nat → Int32) (pm : Int32) : Int32 := if pm < (s + (ph 3)) then ((L_2fill3_52 u s pg pc pm 12).2) else pm
theorem g_X2_fill_11_5 : ab_oks M_X2_fill [(11, .iload_n 3, 1, 3, 0, 0, .null), (12, .aload_n 0, 1, 0, 0, 0, .null), (13, .getfield 20, 3, 2, 1, 159, .null), (16, .iconst 0, 1, 0, 0, 0, .int (nI (0))), (17, .iload_n 1, 1, 1, 0, 0, .null)] = true := by decide +kernel
theorem dc_X2_fill_18 : decode (AM.bytes M_X2_fill) 18 = .ok (.invokevirtual 43, 3) := by decide +kernel
theorem g_X2_fill_21_3 : ab_oks M_X2_fill [(21, .iadd, 1, 0, 0, 0, .null), (22, .aload_n 0, 1, 0, 0, 0, .null), (23, .getfield 26, 3, 2, 3, 161, .null)] = true := by decide +kernel
theorem dc_X2_fill_26 : decode (AM.bytes M_X2_fill) 26 = .ok (.if_icmp .gt 4, 3) := by decide +kernel
theorem g_X2_fill_30_5 : ab_oks M_X2_fill [(30, .aload_n 0, 1, 0, 0, 0, .null), (31, .getfield 23, 3, 2, 2, 160, .null), (34, .iconst 0, 1, 0, 0, 0, .int (nI (0))), (35, .iload_n 1, 1, 1, 0, 0, .null), (36, .iconst (-1), 1, 0, 0, 0, .int (-1))] = true := by decide +kernel
theorem lk_2_34 : ab_lkV "LeafCradles$LoadPlan" 34 M_X3_put 3 [546, 86, 87, 31, 88] = true := by decide +kernel
theorem dc_X2_fill_37 : decode (AM.bytes M_X2_fill) 37 = .ok (.invokevirtual 34, 3) := by decide +kernel
theorem g_X2_fill_40_6 : ab_oks M_X2_fill [(40, .aload_n 0, 1, 0, 0, 0, .null), (41, .iload_n 1, 1, 1, 0, 0, .null), (42, .iconst 1, 1, 0, 0, 0, .int (nI (1))), (43, .iadd, 1, 0, 0, 0, .null), (44, .iload_n 2, 1, 2, 0, 0, .null), (45, .iload_n 3, 1, 3, 0, 0, .null)] = true := by decide +kernel
theorem lk_2_46 : ab_lkS "LeafCradles$LoadPlan" 46 M_X2_fill 4 [549, 550, 34, 551] = true := by decide +kernel
theorem dc_X2_fill_46 : decode (AM.bytes M_X2_fill) 46 = .ok (.invokestatic 46, 3) := by decide +kernel
theorem g_X2_fill_49_2 : ab_oks M_X2_fill [(49, .iconst 0, 1, 0, 0, 0, .int (nI (0))), (50, .istore 4, 2, 4, 0, 0, .null)] = true := by decide +kernel
theorem g_X2_fill_52_2 : ab_oks M_X2_fill [(52, .iload 4, 2, 4, 0, 0, .null), (54, .bipush 12, 2, 0, 0, 0, .int (nI (12)))] = true := by decide +kernel
theorem dc_X2_fill_56 : decode (AM.bytes M_X2_fill) 56 = .ok (.if_icmp .ge 63, 3) := by decide +kernel
theorem g_X2_fill_59_4 : ab_oks M_X2_fill [(59, .aload_n 0, 1, 0, 0, 0, .null), (60, .getfield 14, 3, 2, 0, 158, .null), (63, .iload_n 1, 1, 1, 0, 0, .null), (64, .iload 4, 2, 4, 0, 0, .null)] = true := by decide +kernel
theorem dc_X2_fill_66 : decode (AM.bytes M_X2_fill) 66 = .ok (.invokevirtual 43, 3) := by decide +kernel
theorem g_X2_fill_69_2 : ab_oks M_X2_fill [(69, .istore 5, 2, 5, 0, 0, .null), (71, .iload 5, 2, 5, 0, 0, .null)] = true := by decide +kernel
theorem dc_X2_fill_73 : decode (AM.bytes M_X2_fill) 73 = .ok (.ifCond .le 40, 3) := by decide +kernel
theorem g_X2_fill_113_2 : ab_oks M_X2_fill [(113, .iinc 4 1, 3, 4, 0, 0, .int (nI (1))), (116, .goto (-64), 3, 52, 0, 0, .null)] = true := by decide +kernel
theorem g_X2_fill_76_5 : ab_oks M_X2_fill [(76, .iload_n 2, 1, 2, 0, 0, .null), (77, .iconst 1, 1, 0, 0, 0, .int (nI (1))), (78, .iload 4, 2, 4, 0, 0, .null), (80, .ishl, 1, 0, 0, 0, .null), (81, .iand, 1, 0, 0, 0, .null)] = true := by decide +kernel
theorem dc_X2_fill_82 : decode (AM.bytes M_X2_fill) 82 = .ok (.ifCond .ne 31, 3) := by decide +kernel
theorem g_X2_fill_85_5 : ab_oks M_X2_fill [(85, .aload_n 0, 1, 0, 0, 0, .null), (86, .getfield 23, 3, 2, 2, 160, .null), (89, .iconst 0, 1, 0, 0, 0, .int (nI (0))), (90, .iload_n 1, 1, 1, 0, 0, .null), (91, .iload 4, 2, 4, 0, 0, .null)] = true := by decide +kernel
theorem dc_X2_fill_93 : decode (AM.bytes M_X2_fill) 93 = .ok (.invokevirtual 34, 3) := by decide +kernel
theorem g_X2_fill_96_12 : ab_oks M_X2_fill [(96, .aload_n 0, 1, 0, 0, 0, .null), (97, .iload_n 1, 1, 1, 0, 0, .null), (98, .iconst 1, 1, 0, 0, 0, .int (nI (1))), (99, .iadd, 1, 0, 0, 0, .null), (100, .iload_n 2, 1, 2, 0, 0, .null), (101, .iconst 1, 1, 0, 0, 0, .int (nI (1))), (102, .iload 4, 2, 4, 0, 0, .null), (104, .ishl, 1, 0, 0, 0, .null), (105, .ior, 1, 0, 0, 0, .null), (106, .iload_n 3, 1, 3, 0, 0, .null), (107, .iload 5, 2, 5, 0, 0, .null), (109, .iadd, 1, 0, 0, 0, .null)] = true := by decide +kernel
theorem dc_X2_fill_110 : decode (AM.bytes M_X2_fill) 110 = .ok (.invokestatic 46, 3) := by decide +kernel
theorem dc_X2_fill_119 : decode (AM.bytes M_X2_fill) 119 = .ok (.return_, 1) := by decide +kernel
theorem dc_X2_fill_29 : decode (AM.bytes M_X2_fill) 29 = .ok (.return_, 1) := by decide +kernel
set_option maxRecDepth 100000 in
set_option maxHeartbeats 4000000 in
theorem s_2fill3 {E : AE} (d : Nat) (u : Int32) (s : Int32)  {o0 a0 t0 m0 u0 l0 : List AC} {pg ph pc : Nat → Int32} {pm : Int32} : CT E M_X2_fill (d + 3) [.ref 12288, .int (nI (3)), .int (u), .int (s)] (hp o0 a0 t0 (pl pg ph pc pm) m0 u0 l0) (.inl none) (hp o0 a0 t0 (pl pg ph (F_2fill3_pc u s pg ph pc pm) (F_2fill3_pm u s pg ph pc pm)) m0 u0 l0) 0 0 := by
  refine CT.of (L := [some (.ref 12288), some (.int (nI (3))), some (.int (u)), some (.int (s)), none, none]) rfl rfl ?_
  refine AR.run g_X2_fill_0_2 2 [some (.ref 12288), some (.int (nI (3))), some (.int (u)), some (.int (s)), none, none] [.int (nI (4)), .int (nI (3))] _ [] rfl trivial ?_
  refine AR.lt2N (tgt := 11) (a := 3) (b := 4) dc_X2_fill_2 (by decide) (by first | rfl | (simp only [nI_add, pk_mul]; first | done | rfl)) (by first | rfl | (simp only [nI_add, pk_mul]; first | done | rfl)) (by omega) (by omega) (fun c2_1 => ?_) (fun c2_1 => absurd c2_1 (by omega))
  refine AR.run g_X2_fill_11_5 18 [some (.ref 12288), some (.int (nI (3))), some (.int (u)), some (.int (s)), none, none] [.int (nI (3)), .int (nI (0)), .ref 12292, .int (s)] _ [] rfl trivial ?_
  refine AR.callV1 (12292) [.int (nI (0)), .int (nI (3))] [.int (s)] lk_2_43 dc_X2_fill_18 rfl rfl (s_3atG1 _ 3 (by omega)) (by first | rfl | (simp only [nI_add, pk_mul]; first | done | rfl)) rfl ?_
  refine AR.run g_X2_fill_21_3 26 [some (.ref 12288), some (.int (nI (3))), some (.int (u)), some (.int (s)), none, none] [.int (pm), .int (s + (ph 3))] _ [] rfl trivial ?_
  refine AR.gt2 (tgt := 30) dc_X2_fill_26 (by decide) (fun c26_2 => ?_) (fun c26_2 => ?_)
  · refine AR.run g_X2_fill_30_5 37 [some (.ref 12288), some (.int (nI (3))), some (.int (u)), some (.int (s)), none, none] [.int (-1), .int (nI (3)), .int (nI (0)), .ref 12295] _ [] rfl trivial ?_
    refine AR.callV0 (12295) [.int (nI (0)), .int (nI (3)), .int (-1)] [] lk_2_34 dc_X2_fill_37 rfl rfl (s_3putG2 _ 0 3 (-1) (by omega) (by omega)) (by first | rfl | (simp only [nI_add, pk_mul]; first | done | rfl)) rfl ?_
    refine AR.cast (h1 := (hp o0 a0 t0 (pl pg ph (upd pc ((0 * 4) + 3) (-1)) pm) m0 u0 l0)) rfl rfl rfl ?_
    refine AR.run g_X2_fill_40_6 46 [some (.ref 12288), some (.int (nI (3))), some (.int (u)), some (.int (s)), none, none] [.int (s), .int (u), .int ((nI (3)) + (nI (1))), .ref 12288] _ [] rfl trivial ?_
    refine AR.callS0 [.ref 12288, .int (nI ((3 + 1))), .int (u), .int (s)] [] lk_2_46 dc_X2_fill_46 (s_2fill4 _ u s ) (by first | rfl | (simp only [nI_add, pk_mul]; first | done | rfl)) rfl ?_
    refine AR.run g_X2_fill_49_2 52 [some (.ref 12288), some (.int (nI (3))), some (.int (u)), some (.int (s)), some (.int (nI (0))), none] [] _ [] rfl trivial ?_
    refine AR.cast (L' := [some (.ref 12288), some (.int (nI (3))), some (.int (u)), some (.int (s)), some (.int (nI (0))), none]) (by first | rfl | (rw [L_2fill3_52])) rfl (by first | rfl | (rw [L_2fill3_52])) (AR.loopN 12 (fun j52 => [some (.ref 12288), some (.int (nI (3))), some (.int (u)), some (.int (s)), some (.int (nI (j52))), none]) (fun j52 => (hp o0 a0 t0 (pl pg ph ((L_2fill3_52 u s pg pc pm j52).1) ((L_2fill3_52 u s pg pc pm j52).2)) m0 u0 l0)) (fun j52 => True) (fun j52 hj52 hI52 ih52 => ?_) (fun hI52 => ?_) 0 (by omega) (by first | trivial | omega))
    · refine AR.run g_X2_fill_52_2 56 [some (.ref 12288), some (.int (nI (3))), some (.int (u)), some (.int (s)), some (.int (nI (j52))), none] [.int (nI (12)), .int (nI (j52))] _ [] rfl trivial ?_
      refine AR.ge2N (tgt := 119) (a := j52) (b := 12) dc_X2_fill_56 (by decide) (by first | rfl | (simp only [nI_add, pk_mul]; first | done | rfl)) (by first | rfl | (simp only [nI_add, pk_mul]; first | done | rfl)) (by omega) (by omega) (fun c56_3 => absurd c56_3 (by omega)) (fun c56_3 => ?_)
      refine AR.run g_X2_fill_59_4 66 [some (.ref 12288), some (.int (nI (3))), some (.int (u)), some (.int (s)), some (.int (nI (j52))), none] [.int (nI (j52)), .int (nI (3)), .ref 12289] _ [] rfl trivial ?_
      refine AR.callV1 (12289) [.int (nI (3)), .int (nI (j52))] [] lk_2_43 dc_X2_fill_66 rfl rfl (s_3atG0 _ 3 j52 (by omega) (by omega)) (by first | rfl | (simp only [nI_add, pk_mul]; first | done | rfl)) rfl ?_
      refine AR.run g_X2_fill_69_2 73 [some (.ref 12288), some (.int (nI (3))), some (.int (u)), some (.int (s)), some (.int (nI (j52))), some (.int (pg (3 * 12 + j52)))] [.int (pg (3 * 12 + j52))] _ [] rfl trivial ?_
      refine AR.le (tgt := 113) dc_X2_fill_73 (by decide) (fun c73_4 => ?_) (fun c73_4 => ?_)
      · refine AR.run g_X2_fill_113_2 52 [some (.ref 12288), some (.int (nI (3))), some (.int (u)), some (.int (s)), some (.int ((nI (j52)) + (nI (1)))), some (.int (pg (3 * 12 + j52)))] [] _ [] rfl trivial ?_
        refine AR.drop (L' := [some (.ref 12288), some (.int (nI (3))), some (.int (u)), some (.int (s)), some (.int ((nI (j52)) + (nI (1)))), none]) ⟨rfl, rfl, rfl, rfl, rfl, trivial⟩ ?_
        have e5 : L_2fill3_52 u s pg pc pm (j52 + 1) = ((L_2fill3_52 u s pg pc pm j52).1, (L_2fill3_52 u s pg pc pm j52).2) := by rw [L_2fill3_52, B_2fill3_52, if_pos c73_4]
        exact AR.cast (L' := [some (.ref 12288), some (.int (nI (3))), some (.int (u)), some (.int (s)), some (.int (nI (j52 + 1))), none]) (by first | rfl | (rw [nI_add]; done) | (rw [nI_add]; rfl)) rfl (by rw [e5]) (ih52 (by first | trivial | omega))
      · refine AR.run g_X2_fill_76_5 82 [some (.ref 12288), some (.int (nI (3))), some (.int (u)), some (.int (s)), some (.int (nI (j52))), some (.int (pg (3 * 12 + j52)))] [.int (u &&& ((nI (1)) <<< ((nI (j52)) &&& 31)))] _ [] rfl trivial ?_
        refine AR.ne (tgt := 113) dc_X2_fill_82 (by decide) (fun c82_6 => ?_) (fun c82_6 => ?_)
        · refine AR.run g_X2_fill_113_2 52 [some (.ref 12288), some (.int (nI (3))), some (.int (u)), some (.int (s)), some (.int ((nI (j52)) + (nI (1)))), some (.int (pg (3 * 12 + j52)))] [] _ [] rfl trivial ?_
          refine AR.drop (L' := [some (.ref 12288), some (.int (nI (3))), some (.int (u)), some (.int (s)), some (.int ((nI (j52)) + (nI (1)))), none]) ⟨rfl, rfl, rfl, rfl, rfl, trivial⟩ ?_
          have e7 : L_2fill3_52 u s pg pc pm (j52 + 1) = ((L_2fill3_52 u s pg pc pm j52).1, (L_2fill3_52 u s pg pc pm j52).2) := by rw [L_2fill3_52, B_2fill3_52, if_neg c73_4, if_neg c82_6]
          exact AR.cast (L' := [some (.ref 12288), some (.int (nI (3))), some (.int (u)), some (.int (s)), some (.int (nI (j52 + 1))), none]) (by first | rfl | (rw [nI_add]; done) | (rw [nI_add]; rfl)) rfl (by rw [e7]) (ih52 (by first | trivial | omega))
        · refine AR.run g_X2_fill_85_5 93 [some (.ref 12288), some (.int (nI (3))), some (.int (u)), some (.int (s)), some (.int (nI (j52))), some (.int (pg (3 * 12 + j52)))] [.int (nI (j52)), .int (nI (3)), .int (nI (0)), .ref 12295] _ [] rfl trivial ?_
          refine AR.callV0 (12295) [.int (nI (0)), .int (nI (3)), .int (nI (j52))] [] lk_2_34 dc_X2_fill_93 rfl rfl (s_3putG2 _ 0 3 (nI (j52)) (by omega) (by omega)) (by first | rfl | (simp only [nI_add, pk_mul]; first | done | rfl)) rfl ?_
          refine AR.cast (h1 := (hp o0 a0 t0 (pl pg ph (upd ((L_2fill3_52 u s pg pc pm j52).1) ((0 * 4) + 3) (nI (j52))) ((L_2fill3_52 u s pg pc pm j52).2)) m0 u0 l0)) rfl rfl rfl ?_
          refine AR.run g_X2_fill_96_12 110 [some (.ref 12288), some (.int (nI (3))), some (.int (u)), some (.int (s)), some (.int (nI (j52))), some (.int (pg (3 * 12 + j52)))] [.int (s + (pg (3 * 12 + j52))), .int (u ||| ((nI (1)) <<< ((nI (j52)) &&& 31))), .int ((nI (3)) + (nI (1))), .ref 12288] _ [] rfl trivial ?_
          refine AR.callS0 [.ref 12288, .int (nI ((3 + 1))), .int (u ||| ((nI (1)) <<< ((nI (j52)) &&& 31))), .int (s + (pg (3 * 12 + j52)))] [] lk_2_46 dc_X2_fill_110 (s_2fill4 _ (u ||| ((nI (1)) <<< ((nI (j52)) &&& 31))) (s + (pg (3 * 12 + j52))) ) (by first | rfl | (simp only [nI_add, pk_mul]; first | done | rfl)) rfl ?_
          refine AR.run g_X2_fill_113_2 52 [some (.ref 12288), some (.int (nI (3))), some (.int (u)), some (.int (s)), some (.int ((nI (j52)) + (nI (1)))), some (.int (pg (3 * 12 + j52)))] [] _ [] rfl trivial ?_
          refine AR.drop (L' := [some (.ref 12288), some (.int (nI (3))), some (.int (u)), some (.int (s)), some (.int ((nI (j52)) + (nI (1)))), none]) ⟨rfl, rfl, rfl, rfl, rfl, trivial⟩ ?_
          have e8 : L_2fill3_52 u s pg pc pm (j52 + 1) = (F_2fill4_pc (s + (pg (3 * 12 + j52))) (upd ((L_2fill3_52 u s pg pc pm j52).1) ((0 * 4) + 3) (nI (j52))) ((L_2fill3_52 u s pg pc pm j52).2), F_2fill4_pm (s + (pg (3 * 12 + j52))) ((L_2fill3_52 u s pg pc pm j52).2)) := by rw [L_2fill3_52, B_2fill3_52, if_neg c73_4, if_pos c82_6]
          exact AR.cast (L' := [some (.ref 12288), some (.int (nI (3))), some (.int (u)), some (.int (s)), some (.int (nI (j52 + 1))), none]) (by first | rfl | (rw [nI_add]; done) | (rw [nI_add]; rfl)) rfl (by rw [e8]) (ih52 (by first | trivial | omega))
    · refine AR.run g_X2_fill_52_2 56 [some (.ref 12288), some (.int (nI (3))), some (.int (u)), some (.int (s)), some (.int (nI (12))), none] [.int (nI (12)), .int (nI (12))] _ [] rfl trivial ?_
      refine AR.ge2N (tgt := 119) (a := 12) (b := 12) dc_X2_fill_56 (by decide) (by first | rfl | (simp only [nI_add, pk_mul]; first | done | rfl)) (by first | rfl | (simp only [nI_add, pk_mul]; first | done | rfl)) (by omega) (by omega) (fun c56_9 => ?_) (fun c56_9 => absurd c56_9 (by omega))
      have e10_0 : F_2fill3_pc u s pg ph pc pm = ((L_2fill3_52 u s pg pc pm 12).1) := by rw [F_2fill3_pc, if_pos c26_2]
      have e10_1 : F_2fill3_pm u s pg ph pc pm = ((L_2fill3_52 u s pg pc pm 12).2) := by rw [F_2fill3_pm, if_pos c26_2]
      exact AR.retV dc_X2_fill_119 rfl (by rw [e10_0, e10_1])
  · have e11_0 : F_2fill3_pc u s pg ph pc pm = pc := by rw [F_2fill3_pc, if_neg c26_2]
    have e11_1 : F_2fill3_pm u s pg ph pc pm = pm := by rw [F_2fill3_pm, if_neg c26_2]
    exact AR.retV dc_X2_fill_29 rfl (by rw [e11_0, e11_1])
def B_2fill2_52 (u : Int32) (s : Int32) (pg : Nat → Int32) (ph : Nat → Int32) (j52 : Nat) (y52_pl2 : Nat → Int32) (y52_pl3 : Int32) : (Nat → Int32) × (Int32) := if (pg (2 * 12 + j52)) ≤ 0 then (y52_pl2, y52_pl3) else if (u &&& ((nI (1)) <<< ((nI (j52)) &&& 31))) = 0 then (F_2fill3_pc (u ||| ((nI (1)) <<< ((nI (j52)) &&& 31))) (s + (pg (2 * 12 + j52))) pg ph (upd y52_pl2 ((0 * 4) + 2) (nI (j52))) y52_pl3, F_2fill3_pm (u ||| ((nI (1)) <<< ((nI (j52)) &&& 31))) (s + (pg (2 * 12 + j52))) pg ph (upd y52_pl2 ((0 * 4) + 2) (nI (j52))) y52_pl3) else (y52_pl2, y52_pl3)
def L_2fill2_52 (u : Int32) (s : Int32) (pg : Nat → Int32) (ph : Nat → Int32) (pc : Nat → Int32) (pm : Int32) : Nat → (Nat → Int32) × (Int32)
  | 0 => (F_2fill3_pc u s pg ph (upd pc ((0 * 4) + 2) (-1)) pm, F_2fill3_pm u s pg ph (upd pc ((0 * 4) + 2) (-1)) pm)
  | j + 1 => B_2fill2_52 u s pg ph j ((L_2fill2_52 u s pg ph pc pm  j).1) ((L_2fill2_52 u s pg ph pc pm  j).2)
def F_2fill2_pc (u : Int32) (s : Int32) (pg : Nat → Int32) (ph : Nat → Int32) (pc : Nat → Int32) (pm : Int32) : Nat → Int32 := if pm < (s + (ph 2)) then ((L_2fill2_52 u s pg ph pc pm 12).1) else pc
def F_2fill2_pm (u : Int32) (s : Int32) (pg : Nat → Int32) (ph : Nat → Int32) (pc : Nat → Int32) (pm : Int32) : Int32 := if pm < (s + (ph 2)) then ((L_2fill2_52 u s pg ph pc pm 12).2) else pm
set_option maxRecDepth 100000 in
set_option maxHeartbeats 4000000 in
theorem s_2fill2 {E : AE} (d : Nat) (u : Int32) (s : Int32)  {o0 a0 t0 m0 u0 l0 : List AC} {pg ph pc : Nat → Int32} {pm : Int32} : CT E M_X2_fill (d + 4) [.ref 12288, .int (nI (2)), .int (u), .int (s)] (hp o0 a0 t0 (pl pg ph pc pm) m0 u0 l0) (.inl none) (hp o0 a0 t0 (pl pg ph (F_2fill2_pc u s pg ph pc pm) (F_2fill2_pm u s pg ph pc pm)) m0 u0 l0) 0 0 := by
  refine CT.of (L := [some (.ref 12288), some (.int (nI (2))), some (.int (u)), some (.int (s)), none, none]) rfl rfl ?_
  refine AR.run g_X2_fill_0_2 2 [some (.ref 12288), some (.int (nI (2))), some (.int (u)), some (.int (s)), none, none] [.int (nI (4)), .int (nI (2))] _ [] rfl trivial ?_
  refine AR.lt2N (tgt := 11) (a := 2) (b := 4) dc_X2_fill_2 (by decide) (by first | rfl | (simp only [nI_add, pk_mul]; first | done | rfl)) (by first | rfl | (simp only [nI_add, pk_mul]; first | done | rfl)) (by omega) (by omega) (fun c2_1 => ?_) (fun c2_1 => absurd c2_1 (by omega))
  refine AR.run g_X2_fill_11_5 18 [some (.ref 12288), some (.int (nI (2))), some (.int (u)), some (.int (s)), none, none] [.int (nI (2)), .int (nI (0)), .ref 12292, .int (s)] _ [] rfl trivial ?_
  refine AR.callV1 (12292) [.int (nI (0)), .int (nI (2))] [.int (s)] lk_2_43 dc_X2_fill_18 rfl rfl (s_3atG1 _ 2 (by omega)) (by first | rfl | (simp only [nI_add, pk_mul]; first | done | rfl)) rfl ?_
  refine AR.run g_X2_fill_21_3 26 [some (.ref 12288), some (.int (nI (2))), some (.int (u)), some (.int (s)), none, none] [.int (pm), .int (s + (ph 2))] _ [] rfl trivial ?_
  refine AR.gt2 (tgt := 30) dc_X2_fill_26 (by decide) (fun c26_2 => ?_) (fun c26_2 => ?_)
  · refine AR.run g_X2_fill_30_5 37 [some (.ref 12288), some (.int (nI (2))), some (.int (u)), some (.int (s)), none, none] [.int (-1), .int (nI (2)), .int (nI (0)), .ref 12295] _ [] rfl trivial ?_
    refine AR.callV0 (12295) [.int (nI (0)), .int (nI (2)), .int (-1)] [] lk_2_34 dc_X2_fill_37 rfl rfl (s_3putG2 _ 0 2 (-1) (by omega) (by omega)) (by first | rfl | (simp only [nI_add, pk_mul]; first | done | rfl)) rfl ?_
    refine AR.cast (h1 := (hp o0 a0 t0 (pl pg ph (upd pc ((0 * 4) + 2) (-1)) pm) m0 u0 l0)) rfl rfl rfl ?_
    refine AR.run g_X2_fill_40_6 46 [some (.ref 12288), some (.int (nI (2))), some (.int (u)), some (.int (s)), none, none] [.int (s), .int (u), .int ((nI (2)) + (nI (1))), .ref 12288] _ [] rfl trivial ?_
    refine AR.callS0 [.ref 12288, .int (nI ((2 + 1))), .int (u), .int (s)] [] lk_2_46 dc_X2_fill_46 (s_2fill3 _ u s ) (by first | rfl | (simp only [nI_add, pk_mul]; first | done | rfl)) rfl ?_
    refine AR.run g_X2_fill_49_2 52 [some (.ref 12288), some (.int (nI (2))), some (.int (u)), some (.int (s)), some (.int (nI (0))), none] [] _ [] rfl trivial ?_
    refine AR.cast (L' := [some (.ref 12288), some (.int (nI (2))), some (.int (u)), some (.int (s)), some (.int (nI (0))), none]) (by first | rfl | (rw [L_2fill2_52])) rfl (by first | rfl | (rw [L_2fill2_52])) (AR.loopN 12 (fun j52 => [some (.ref 12288), some (.int (nI (2))), some (.int (u)), some (.int (s)), some (.int (nI (j52))), none]) (fun j52 => (hp o0 a0 t0 (pl pg ph ((L_2fill2_52 u s pg ph pc pm j52).1) ((L_2fill2_52 u s pg ph pc pm j52).2)) m0 u0 l0)) (fun j52 => True) (fun j52 hj52 hI52 ih52 => ?_) (fun hI52 => ?_) 0 (by omega) (by first | trivial | omega))
    · refine AR.run g_X2_fill_52_2 56 [some (.ref 12288), some (.int (nI (2))), some (.int (u)), some (.int (s)), some (.int (nI (j52))), none] [.int (nI (12)), .int (nI (j52))] _ [] rfl trivial ?_
      refine AR.ge2N (tgt := 119) (a := j52) (b := 12) dc_X2_fill_56 (by decide) (by first | rfl | (simp only [nI_add, pk_mul]; first | done | rfl)) (by first | rfl | (simp only [nI_add, pk_mul]; first | done | rfl)) (by omega) (by omega) (fun c56_3 => absurd c56_3 (by omega)) (fun c56_3 => ?_)
      refine AR.run g_X2_fill_59_4 66 [some (.ref 12288), some (.int (nI (2))), some (.int (u)), some (.int (s)), some (.int (nI (j52))), none] [.int (nI (j52)), .int (nI (2)), .ref 12289] _ [] rfl trivial ?_
      refine AR.callV1 (12289) [.int (nI (2)), .int (nI (j52))] [] lk_2_43 dc_X2_fill_66 rfl rfl (s_3atG0 _ 2 j52 (by omega) (by omega)) (by first | rfl | (simp only [nI_add, pk_mul]; first | done | rfl)) rfl ?_
      refine AR.run g_X2_fill_69_2 73 [some (.ref 12288), some (.int (nI (2))), some (.int (u)), some (.int (s)), some (.int (nI (j52))), some (.int (pg (2 * 12 + j52)))] [.int (pg (2 * 12 + j52))] _ [] rfl trivial ?_
      refine AR.le (tgt := 113) dc_X2_fill_73 (by decide) (fun c73_4 => ?_) (fun c73_4 => ?_)
      · refine AR.run g_X2_fill_113_2 52 [some (.ref 12288), some (.int (nI (2))), some (.int (u)), some (.int (s)), some (.int ((nI (j52)) + (nI (1)))), some (.int (pg (2 * 12 + j52)))] [] _ [] rfl trivial ?_
        refine AR.drop (L' := [some (.ref 12288), some (.int (nI (2))), some (.int (u)), some (.int (s)), some (.int ((nI (j52)) + (nI (1)))), none]) ⟨rfl, rfl, rfl, rfl, rfl, trivial⟩ ?_
        have e5 : L_2fill2_52 u s pg ph pc pm (j52 + 1) = ((L_2fill2_52 u s pg ph pc pm j52).1, (L_2fill2_52 u s pg ph pc pm j52).2) := by rw [L_2fill2_52, B_2fill2_52, if_pos c73_4]
        exact AR.cast (L' := [some (.ref 12288), some (.int (nI (2))), some (.int (u)), some (.int (s)), some (.int (nI (j52 + 1))), none]) (by first | rfl | (rw [nI_add]; done) | (rw [nI_add]; rfl)) rfl (by rw [e5]) (ih52 (by first | trivial | omega))
      · refine AR.run g_X2_fill_76_5 82 [some (.ref 12288), some (.int (nI (2))), some (.int (u)), some (.int (s)), some (.int (nI (j52))), some (.int (pg (2 * 12 + j52)))] [.int (u &&& ((nI (1)) <<< ((nI (j52)) &&& 31)))] _ [] rfl trivial ?_
        refine AR.ne (tgt := 113) dc_X2_fill_82 (by decide) (fun c82_6 => ?_) (fun c82_6 => ?_)
        · refine AR.run g_X2_fill_113_2 52 [some (.ref 12288), some (.int (nI (2))), some (.int (u)), some (.int (s)), some (.int ((nI (j52)) + (nI (1)))), some (.int (pg (2 * 12 + j52)))] [] _ [] rfl trivial ?_
          refine AR.drop (L' := [some (.ref 12288), some (.int (nI (2))), some (.int (u)), some (.int (s)), some (.int ((nI (j52)) + (nI (1)))), none]) ⟨rfl, rfl, rfl, rfl, rfl, trivial⟩ ?_
          have e7 : L_2fill2_52 u s pg ph pc pm (j52 + 1) = ((L_2fill2_52 u s pg ph pc pm j52).1, (L_2fill2_52 u s pg ph pc pm j52).2) := by rw [L_2fill2_52, B_2fill2_52, if_neg c73_4, if_neg c82_6]
          exact AR.cast (L' := [some (.ref 12288), some (.int (nI (2))), some (.int (u)), some (.int (s)), some (.int (nI (j52 + 1))), none]) (by first | rfl | (rw [nI_add]; done) | (rw [nI_add]; rfl)) rfl (by rw [e7]) (ih52 (by first | trivial | omega))
        · refine AR.run g_X2_fill_85_5 93 [some (.ref 12288), some (.int (nI (2))), some (.int (u)), some (.int (s)), some (.int (nI (j52))), some (.int (pg (2 * 12 + j52)))] [.int (nI (j52)), .int (nI (2)), .int (nI (0)), .ref 12295] _ [] rfl trivial ?_
          refine AR.callV0 (12295) [.int (nI (0)), .int (nI (2)), .int (nI (j52))] [] lk_2_34 dc_X2_fill_93 rfl rfl (s_3putG2 _ 0 2 (nI (j52)) (by omega) (by omega)) (by first | rfl | (simp only [nI_add, pk_mul]; first | done | rfl)) rfl ?_
          refine AR.cast (h1 := (hp o0 a0 t0 (pl pg ph (upd ((L_2fill2_52 u s pg ph pc pm j52).1) ((0 * 4) + 2) (nI (j52))) ((L_2fill2_52 u s pg ph pc pm j52).2)) m0 u0 l0)) rfl rfl rfl ?_
          refine AR.run g_X2_fill_96_12 110 [some (.ref 12288), some (.int (nI (2))), some (.int (u)), some (.int (s)), some (.int (nI (j52))), some (.int (pg (2 * 12 + j52)))] [.int (s + (pg (2 * 12 + j52))), .int (u ||| ((nI (1)) <<< ((nI (j52)) &&& 31))), .int ((nI (2)) + (nI (1))), .ref 12288] _ [] rfl trivial ?_
          refine AR.callS0 [.ref 12288, .int (nI ((2 + 1))), .int (u ||| ((nI (1)) <<< ((nI (j52)) &&& 31))), .int (s + (pg (2 * 12 + j52)))] [] lk_2_46 dc_X2_fill_110 (s_2fill3 _ (u ||| ((nI (1)) <<< ((nI (j52)) &&& 31))) (s + (pg (2 * 12 + j52))) ) (by first | rfl | (simp only [nI_add, pk_mul]; first | done | rfl)) rfl ?_
          refine AR.run g_X2_fill_113_2 52 [some (.ref 12288), some (.int (nI (2))), some (.int (u)), some (.int (s)), some (.int ((nI (j52)) + (nI (1)))), some (.int (pg (2 * 12 + j52)))] [] _ [] rfl trivial ?_
          refine AR.drop (L' := [some (.ref 12288), some (.int (nI (2))), some (.int (u)), some (.int (s)), some (.int ((nI (j52)) + (nI (1)))), none]) ⟨rfl, rfl, rfl, rfl, rfl, trivial⟩ ?_
          have e8 : L_2fill2_52 u s pg ph pc pm (j52 + 1) = (F_2fill3_pc (u ||| ((nI (1)) <<< ((nI (j52)) &&& 31))) (s + (pg (2 * 12 + j52))) pg ph (upd ((L_2fill2_52 u s pg ph pc pm j52).1) ((0 * 4) + 2) (nI (j52))) ((L_2fill2_52 u s pg ph pc pm j52).2), F_2fill3_pm (u ||| ((nI (1)) <<< ((nI (j52)) &&& 31))) (s + (pg (2 * 12 + j52))) pg ph (upd ((L_2fill2_52 u s pg ph pc pm j52).1) ((0 * 4) + 2) (nI (j52))) ((L_2fill2_52 u s pg ph pc pm j52).2)) := by rw [L_2fill2_52, B_2fill2_52, if_neg c73_4, if_pos c82_6]
          exact AR.cast (L' := [some (.ref 12288), some (.int (nI (2))), some (.int (u)), some (.int (s)), some (.int (nI (j52 + 1))), none]) (by first | rfl | (rw [nI_add]; done) | (rw [nI_add]; rfl)) rfl (by rw [e8]) (ih52 (by first | trivial | omega))
    · refine AR.run g_X2_fill_52_2 56 [some (.ref 12288), some (.int (nI (2))), some (.int (u)), some (.int (s)), some (.int (nI (12))), none] [.int (nI (12)), .int (nI (12))] _ [] rfl trivial ?_
      refine AR.ge2N (tgt := 119) (a := 12) (b := 12) dc_X2_fill_56 (by decide) (by first | rfl | (simp only [nI_add, pk_mul]; first | done | rfl)) (by first | rfl | (simp only [nI_add, pk_mul]; first | done | rfl)) (by omega) (by omega) (fun c56_9 => ?_) (fun c56_9 => absurd c56_9 (by omega))
      have e10_0 : F_2fill2_pc u s pg ph pc pm = ((L_2fill2_52 u s pg ph pc pm 12).1) := by rw [F_2fill2_pc, if_pos c26_2]
      have e10_1 : F_2fill2_pm u s pg ph pc pm = ((L_2fill2_52 u s pg ph pc pm 12).2) := by rw [F_2fill2_pm, if_pos c26_2]
      exact AR.retV dc_X2_fill_119 rfl (by rw [e10_0, e10_1])
  · have e11_0 : F_2fill2_pc u s pg ph pc pm = pc := by rw [F_2fill2_pc, if_neg c26_2]
    have e11_1 : F_2fill2_pm u s pg ph pc pm = pm := by rw [F_2fill2_pm, if_neg c26_2]
    exact AR.retV dc_X2_fill_29 rfl (by rw [e11_0, e11_1])
def B_2fill1_52 (u : Int32) (s : Int32) (pg : Nat → Int32) (ph : Nat → Int32) (j52 : Nat) (y52_pl2 : Nat → Int32) (y52_pl3 : Int32) : (Nat → Int32) × (Int32) := if (pg (1 * 12 + j52)) ≤ 0 then (y52_pl2, y52_pl3) else if (u &&& ((nI (1)) <<< ((nI (j52)) &&& 31))) = 0 then (F_2fill2_pc (u ||| ((nI (1)) <<< ((nI (j52)) &&& 31))) (s + (pg (1 * 12 + j52))) pg ph (upd y52_pl2 ((0 * 4) + 1) (nI (j52))) y52_pl3, F_2fill2_pm (u ||| ((nI (1)) <<< ((nI (j52)) &&& 31))) (s + (pg (1 * 12 + j52))) pg ph (upd y52_pl2 ((0 * 4) + 1) (nI (j52))) y52_pl3) else (y52_pl2, y52_pl3)
def L_2fill1_52 (u : Int32) (s : Int32) (pg : Nat → Int32) (ph : Nat → Int32) (pc : Nat → Int32) (pm : Int32) : Nat → (Nat → Int32) × (Int32)
  | 0 => (F_2fill2_pc u s pg ph (upd pc ((0 * 4) + 1) (-1)) pm, F_2fill2_pm u s pg ph (upd pc ((0 * 4) + 1) (-1)) pm)
  | j + 1 => B_2fill1_52 u s pg ph j ((L_2fill1_52 u s pg ph pc pm  j).1) ((L_2fill1_52 u s pg ph pc pm  j).2)
def F_2fill1_pc (u : Int32) (s : Int32) (pg : Nat → Int32) (ph : Nat → Int32) (pc : Nat → Int32) (pm : Int32) : Nat → Int32 := if pm < (s + (ph 1)) then ((L_2fill1_52 u s pg ph pc pm 12).1) else pc
def F_2fill1_pm (u : Int32) (s : Int32) (pg : Nat → Int32) (ph : Nat → Int32) (pc : Nat → Int32) (pm : Int32) : Int32 := if pm < (s + (ph 1)) then ((L_2fill1_52 u s pg ph pc pm 12).2) else pm
set_option maxRecDepth 100000 in
set_option maxHeartbeats 4000000 in
theorem s_2fill1 {E : AE} (d : Nat) (u : Int32) (s : Int32)  {o0 a0 t0 m0 u0 l0 : List AC} {pg ph pc : Nat → Int32} {pm : Int32} : CT E M_X2_fill (d + 5) [.ref 12288, .int (nI (1)), .int (u), .int (s)] (hp o0 a0 t0 (pl pg ph pc pm) m0 u0 l0) (.inl none) (hp o0 a0 t0 (pl pg ph (F_2fill1_pc u s pg ph pc pm) (F_2fill1_pm u s pg ph pc pm)) m0 u0 l0) 0 0 := by
  refine CT.of (L := [some (.ref 12288), some (.int (nI (1))), some (.int (u)), some (.int (s)), none, none]) rfl rfl ?_
  refine AR.run g_X2_fill_0_2 2 [some (.ref 12288), some (.int (nI (1))), some (.int (u)), some (.int (s)), none, none] [.int (nI (4)), .int (nI (1))] _ [] rfl trivial ?_
  refine AR.lt2N (tgt := 11) (a := 1) (b := 4) dc_X2_fill_2 (by decide) (by first | rfl | (simp only [nI_add, pk_mul]; first | done | rfl)) (by first | rfl | (simp only [nI_add, pk_mul]; first | done | rfl)) (by omega) (by omega) (fun c2_1 => ?_) (fun c2_1 => absurd c2_1 (by omega))
  refine AR.run g_X2_fill_11_5 18 [some (.ref 12288), some (.int (nI (1))), some (.int (u)), some (.int (s)), none, none] [.int (nI (1)), .int (nI (0)), .ref 12292, .int (s)] _ [] rfl trivial ?_
  refine AR.callV1 (12292) [.int (nI (0)), .int (nI (1))] [.int (s)] lk_2_43 dc_X2_fill_18 rfl rfl (s_3atG1 _ 1 (by omega)) (by first | rfl | (simp only [nI_add, pk_mul]; first | done | rfl)) rfl ?_
  refine AR.run g_X2_fill_21_3 26 [some (.ref 12288), some (.int (nI (1))), some (.int (u)), some (.int (s)), none, none] [.int (pm), .int (s + (ph 1))] _ [] rfl trivial ?_
  refine AR.gt2 (tgt := 30) dc_X2_fill_26 (by decide) (fun c26_2 => ?_) (fun c26_2 => ?_)
  · refine AR.run g_X2_fill_30_5 37 [some (.ref 12288), some (.int (nI (1))), some (.int (u)), some (.int (s)), none, none] [.int (-1), .int (nI (1)), .int (nI (0)), .ref 12295] _ [] rfl trivial ?_
    refine AR.callV0 (12295) [.int (nI (0)), .int (nI (1)), .int (-1)] [] lk_2_34 dc_X2_fill_37 rfl rfl (s_3putG2 _ 0 1 (-1) (by omega) (by omega)) (by first | rfl | (simp only [nI_add, pk_mul]; first | done | rfl)) rfl ?_
    refine AR.cast (h1 := (hp o0 a0 t0 (pl pg ph (upd pc ((0 * 4) + 1) (-1)) pm) m0 u0 l0)) rfl rfl rfl ?_
    refine AR.run g_X2_fill_40_6 46 [some (.ref 12288), some (.int (nI (1))), some (.int (u)), some (.int (s)), none, none] [.int (s), .int (u), .int ((nI (1)) + (nI (1))), .ref 12288] _ [] rfl trivial ?_
    refine AR.callS0 [.ref 12288, .int (nI ((1 + 1))), .int (u), .int (s)] [] lk_2_46 dc_X2_fill_46 (s_2fill2 _ u s ) (by first | rfl | (simp only [nI_add, pk_mul]; first | done | rfl)) rfl ?_
    refine AR.run g_X2_fill_49_2 52 [some (.ref 12288), some (.int (nI (1))), some (.int (u)), some (.int (s)), some (.int (nI (0))), none] [] _ [] rfl trivial ?_
    refine AR.cast (L' := [some (.ref 12288), some (.int (nI (1))), some (.int (u)), some (.int (s)), some (.int (nI (0))), none]) (by first | rfl | (rw [L_2fill1_52])) rfl (by first | rfl | (rw [L_2fill1_52])) (AR.loopN 12 (fun j52 => [some (.ref 12288), some (.int (nI (1))), some (.int (u)), some (.int (s)), some (.int (nI (j52))), none]) (fun j52 => (hp o0 a0 t0 (pl pg ph ((L_2fill1_52 u s pg ph pc pm j52).1) ((L_2fill1_52 u s pg ph pc pm j52).2)) m0 u0 l0)) (fun j52 => True) (fun j52 hj52 hI52 ih52 => ?_) (fun hI52 => ?_) 0 (by omega) (by first | trivial | omega))
    · refine AR.run g_X2_fill_52_2 56 [some (.ref 12288), some (.int (nI (1))), some (.int (u)), some (.int (s)), some (.int (nI (j52))), none] [.int (nI (12)), .int (nI (j52))] _ [] rfl trivial ?_
      refine AR.ge2N (tgt := 119) (a := j52) (b := 12) dc_X2_fill_56 (by decide) (by first | rfl | (simp only [nI_add, pk_mul]; first | done | rfl)) (by first | rfl | (simp only [nI_add, pk_mul]; first | done | rfl)) (by omega) (by omega) (fun c56_3 => absurd c56_3 (by omega)) (fun c56_3 => ?_)
      refine AR.run g_X2_fill_59_4 66 [some (.ref 12288), some (.int (nI (1))), some (.int (u)), some (.int (s)), some (.int (nI (j52))), none] [.int (nI (j52)), .int (nI (1)), .ref 12289] _ [] rfl trivial ?_
      refine AR.callV1 (12289) [.int (nI (1)), .int (nI (j52))] [] lk_2_43 dc_X2_fill_66 rfl rfl (s_3atG0 _ 1 j52 (by omega) (by omega)) (by first | rfl | (simp only [nI_add, pk_mul]; first | done | rfl)) rfl ?_
      refine AR.run g_X2_fill_69_2 73 [some (.ref 12288), some (.int (nI (1))), some (.int (u)), some (.int (s)), some (.int (nI (j52))), some (.int (pg (1 * 12 + j52)))] [.int (pg (1 * 12 + j52))] _ [] rfl trivial ?_
      refine AR.le (tgt := 113) dc_X2_fill_73 (by decide) (fun c73_4 => ?_) (fun c73_4 => ?_)
      · refine AR.run g_X2_fill_113_2 52 [some (.ref 12288), some (.int (nI (1))), some (.int (u)), some (.int (s)), some (.int ((nI (j52)) + (nI (1)))), some (.int (pg (1 * 12 + j52)))] [] _ [] rfl trivial ?_
        refine AR.drop (L' := [some (.ref 12288), some (.int (nI (1))), some (.int (u)), some (.int (s)), some (.int ((nI (j52)) + (nI (1)))), none]) ⟨rfl, rfl, rfl, rfl, rfl, trivial⟩ ?_
        have e5 : L_2fill1_52 u s pg ph pc pm (j52 + 1) = ((L_2fill1_52 u s pg ph pc pm j52).1, (L_2fill1_52 u s pg ph pc pm j52).2) := by rw [L_2fill1_52, B_2fill1_52, if_pos c73_4]
        exact AR.cast (L' := [some (.ref 12288), some (.int (nI (1))), some (.int (u)), some (.int (s)), some (.int (nI (j52 + 1))), none]) (by first | rfl | (rw [nI_add]; done) | (rw [nI_add]; rfl)) rfl (by rw [e5]) (ih52 (by first | trivial | omega))
      · refine AR.run g_X2_fill_76_5 82 [some (.ref 12288), some (.int (nI (1))), some (.int (u)), some (.int (s)), some (.int (nI (j52))), some (.int (pg (1 * 12 + j52)))] [.int (u &&& ((nI (1)) <<< ((nI (j52)) &&& 31)))] _ [] rfl trivial ?_
        refine AR.ne (tgt := 113) dc_X2_fill_82 (by decide) (fun c82_6 => ?_) (fun c82_6 => ?_)
        · refine AR.run g_X2_fill_113_2 52 [some (.ref 12288), some (.int (nI (1))), some (.int (u)), some (.int (s)), some (.int ((nI (j52)) + (nI (1)))), some (.int (pg (1 * 12 + j52)))] [] _ [] rfl trivial ?_
          refine AR.drop (L' := [some (.ref 12288), some (.int (nI (1))), some (.int (u)), some (.int (s)), some (.int ((nI (j52)) + (nI (1)))), none]) ⟨rfl, rfl, rfl, rfl, rfl, trivial⟩ ?_
          have e7 : L_2fill1_52 u s pg ph pc pm (j52 + 1) = ((L_2fill1_52 u s pg ph pc pm j52).1, (L_2fill1_52 u s pg ph pc pm j52).2) := by rw [L_2fill1_52, B_2fill1_52, if_neg c73_4, if_neg c82_6]
          exact AR.cast (L' := [some (.ref 12288), some (.int (nI (1))), some (.int (u)), some (.int (s)), some (.int (nI (j52 + 1))), none]) (by first | rfl | (rw [nI_add]; done) | (rw [nI_add]; rfl)) rfl (by rw [e7]) (ih52 (by first | trivial | omega))
        · refine AR.run g_X2_fill_85_5 93 [some (.ref 12288), some (.int (nI (1))), some (.int (u)), some (.int (s)), some (.int (nI (j52))), some (.int (pg (1 * 12 + j52)))] [.int (nI (j52)), .int (nI (1)), .int (nI (0)), .ref 12295] _ [] rfl trivial ?_
          refine AR.callV0 (12295) [.int (nI (0)), .int (nI (1)), .int (nI (j52))] [] lk_2_34 dc_X2_fill_93 rfl rfl (s_3putG2 _ 0 1 (nI (j52)) (by omega) (by omega)) (by first | rfl | (simp only [nI_add, pk_mul]; first | done | rfl)) rfl ?_
          refine AR.cast (h1 := (hp o0 a0 t0 (pl pg ph (upd ((L_2fill1_52 u s pg ph pc pm j52).1) ((0 * 4) + 1) (nI (j52))) ((L_2fill1_52 u s pg ph pc pm j52).2)) m0 u0 l0)) rfl rfl rfl ?_
          refine AR.run g_X2_fill_96_12 110 [some (.ref 12288), some (.int (nI (1))), some (.int (u)), some (.int (s)), some (.int (nI (j52))), some (.int (pg (1 * 12 + j52)))] [.int (s + (pg (1 * 12 + j52))), .int (u ||| ((nI (1)) <<< ((nI (j52)) &&& 31))), .int ((nI (1)) + (nI (1))), .ref 12288] _ [] rfl trivial ?_
          refine AR.callS0 [.ref 12288, .int (nI ((1 + 1))), .int (u ||| ((nI (1)) <<< ((nI (j52)) &&& 31))), .int (s + (pg (1 * 12 + j52)))] [] lk_2_46 dc_X2_fill_110 (s_2fill2 _ (u ||| ((nI (1)) <<< ((nI (j52)) &&& 31))) (s + (pg (1 * 12 + j52))) ) (by first | rfl | (simp only [nI_add, pk_mul]; first | done | rfl)) rfl ?_
          refine AR.run g_X2_fill_113_2 52 [some (.ref 12288), some (.int (nI (1))), some (.int (u)), some (.int (s)), some (.int ((nI (j52)) + (nI (1)))), some (.int (pg (1 * 12 + j52)))] [] _ [] rfl trivial ?_
          refine AR.drop (L' := [some (.ref 12288), some (.int (nI (1))), some (.int (u)), some (.int (s)), some (.int ((nI (j52)) + (nI (1)))), none]) ⟨rfl, rfl, rfl, rfl, rfl, trivial⟩ ?_
          have e8 : L_2fill1_52 u s pg ph pc pm (j52 + 1) = (F_2fill2_pc (u ||| ((nI (1)) <<< ((nI (j52)) &&& 31))) (s + (pg (1 * 12 + j52))) pg ph (upd ((L_2fill1_52 u s pg ph pc pm j52).1) ((0 * 4) + 1) (nI (j52))) ((L_2fill1_52 u s pg ph pc pm j52).2), F_2fill2_pm (u ||| ((nI (1)) <<< ((nI (j52)) &&& 31))) (s + (pg (1 * 12 + j52))) pg ph (upd ((L_2fill1_52 u s pg ph pc pm j52).1) ((0 * 4) + 1) (nI (j52))) ((L_2fill1_52 u s pg ph pc pm j52).2)) := by rw [L_2fill1_52, B_2fill1_52, if_neg c73_4, if_pos c82_6]
          exact AR.cast (L' := [some (.ref 12288), some (.int (nI (1))), some (.int (u)), some (.int (s)), some (.int (nI (j52 + 1))), none]) (by first | rfl | (rw [nI_add]; done) | (rw [nI_add]; rfl)) rfl (by rw [e8]) (ih52 (by first | trivial | omega))
    · refine AR.run g_X2_fill_52_2 56 [some (.ref 12288), some (.int (nI (1))), some (.int (u)), some (.int (s)), some (.int (nI (12))), none] [.int (nI (12)), .int (nI (12))] _ [] rfl trivial ?_
      refine AR.ge2N (tgt := 119) (a := 12) (b := 12) dc_X2_fill_56 (by decide) (by first | rfl | (simp only [nI_add, pk_mul]; first | done | rfl)) (by first | rfl | (simp only [nI_add, pk_mul]; first | done | rfl)) (by omega) (by omega) (fun c56_9 => ?_) (fun c56_9 => absurd c56_9 (by omega))
      have e10_0 : F_2fill1_pc u s pg ph pc pm = ((L_2fill1_52 u s pg ph pc pm 12).1) := by rw [F_2fill1_pc, if_pos c26_2]
      have e10_1 : F_2fill1_pm u s pg ph pc pm = ((L_2fill1_52 u s pg ph pc pm 12).2) := by rw [F_2fill1_pm, if_pos c26_2]
      exact AR.retV dc_X2_fill_119 rfl (by rw [e10_0, e10_1])
  · have e11_0 : F_2fill1_pc u s pg ph pc pm = pc := by rw [F_2fill1_pc, if_neg c26_2]
    have e11_1 : F_2fill1_pm u s pg ph pc pm = pm := by rw [F_2fill1_pm, if_neg c26_2]
    exact AR.retV dc_X2_fill_29 rfl (by rw [e11_0, e11_1])
def B_2fill0_52 (u : Int32) (s : Int32) (pg : Nat → Int32) (ph : Nat → Int32) (j52 : Nat) (y52_pl2 : Nat → Int32) (y52_pl3 : Int32) : (Nat → Int32) × (Int32) := if (pg (0 * 12 + j52)) ≤ 0 then (y52_pl2, y52_pl3) else if (u &&& ((nI (1)) <<< ((nI (j52)) &&& 31))) = 0 then (F_2fill1_pc (u ||| ((nI (1)) <<< ((nI (j52)) &&& 31))) (s + (pg (0 * 12 + j52))) pg ph (upd y52_pl2 ((0 * 4) + 0) (nI (j52))) y52_pl3, F_2fill1_pm (u ||| ((nI (1)) <<< ((nI (j52)) &&& 31))) (s + (pg (0 * 12 + j52))) pg ph (upd y52_pl2 ((0 * 4) + 0) (nI (j52))) y52_pl3) else (y52_pl2, y52_pl3)
def L_2fill0_52 (u : Int32) (s : Int32) (pg : Nat → Int32) (ph : Nat → Int32) (pc : Nat → Int32) (pm : Int32) : Nat → (Nat → Int32) × (Int32)
  | 0 => (F_2fill1_pc u s pg ph (upd pc ((0 * 4) + 0) (-1)) pm, F_2fill1_pm u s pg ph (upd pc ((0 * 4) + 0) (-1)) pm)
  | j + 1 => B_2fill0_52 u s pg ph j ((L_2fill0_52 u s pg ph pc pm  j).1) ((L_2fill0_52 u s pg ph pc pm  j).2)
def F_2fill0_pc (u : Int32) (s : Int32) (pg : Nat → Int32) (ph : Nat → Int32) (pc : Nat → Int32) (pm : Int32) : Nat → Int32 := if pm < (s + (ph 0)) then ((L_2fill0_52 u s pg ph pc pm 12).1) else pc
def F_2fill0_pm (u : Int32) (s : Int32) (pg : Nat → Int32) (ph : Nat → Int32) (pc : Nat → Int32) (pm : Int32) : Int32 := if pm < (s + (ph 0)) then ((L_2fill0_52 u s pg ph pc pm 12).2) else pm
set_option maxRecDepth 100000 in
set_option maxHeartbeats 4000000 in
theorem s_2fill0 {E : AE} (d : Nat) (u : Int32) (s : Int32)  {o0 a0 t0 m0 u0 l0 : List AC} {pg ph pc : Nat → Int32} {pm : Int32} : CT E M_X2_fill (d + 6) [.ref 12288, .int (nI (0)), .int (u), .int (s)] (hp o0 a0 t0 (pl pg ph pc pm) m0 u0 l0) (.inl none) (hp o0 a0 t0 (pl pg ph (F_2fill0_pc u s pg ph pc pm) (F_2fill0_pm u s pg ph pc pm)) m0 u0 l0) 0 0 := by
  refine CT.of (L := [some (.ref 12288), some (.int (nI (0))), some (.int (u)), some (.int (s)), none, none]) rfl rfl ?_
  refine AR.run g_X2_fill_0_2 2 [some (.ref 12288), some (.int (nI (0))), some (.int (u)), some (.int (s)), none, none] [.int (nI (4)), .int (nI (0))] _ [] rfl trivial ?_
  refine AR.lt2N (tgt := 11) (a := 0) (b := 4) dc_X2_fill_2 (by decide) (by first | rfl | (simp only [nI_add, pk_mul]; first | done | rfl)) (by first | rfl | (simp only [nI_add, pk_mul]; first | done | rfl)) (by omega) (by omega) (fun c2_1 => ?_) (fun c2_1 => absurd c2_1 (by omega))
  refine AR.run g_X2_fill_11_5 18 [some (.ref 12288), some (.int (nI (0))), some (.int (u)), some (.int (s)), none, none] [.int (nI (0)), .int (nI (0)), .ref 12292, .int (s)] _ [] rfl trivial ?_
  refine AR.callV1 (12292) [.int (nI (0)), .int (nI (0))] [.int (s)] lk_2_43 dc_X2_fill_18 rfl rfl (s_3atG1 _ 0 (by omega)) (by first | rfl | (simp only [nI_add, pk_mul]; first | done | rfl)) rfl ?_
  refine AR.run g_X2_fill_21_3 26 [some (.ref 12288), some (.int (nI (0))), some (.int (u)), some (.int (s)), none, none] [.int (pm), .int (s + (ph 0))] _ [] rfl trivial ?_
  refine AR.gt2 (tgt := 30) dc_X2_fill_26 (by decide) (fun c26_2 => ?_) (fun c26_2 => ?_)
  · refine AR.run g_X2_fill_30_5 37 [some (.ref 12288), some (.int (nI (0))), some (.int (u)), some (.int (s)), none, none] [.int (-1), .int (nI (0)), .int (nI (0)), .ref 12295] _ [] rfl trivial ?_
    refine AR.callV0 (12295) [.int (nI (0)), .int (nI (0)), .int (-1)] [] lk_2_34 dc_X2_fill_37 rfl rfl (s_3putG2 _ 0 0 (-1) (by omega) (by omega)) (by first | rfl | (simp only [nI_add, pk_mul]; first | done | rfl)) rfl ?_
    refine AR.cast (h1 := (hp o0 a0 t0 (pl pg ph (upd pc ((0 * 4) + 0) (-1)) pm) m0 u0 l0)) rfl rfl rfl ?_
    refine AR.run g_X2_fill_40_6 46 [some (.ref 12288), some (.int (nI (0))), some (.int (u)), some (.int (s)), none, none] [.int (s), .int (u), .int ((nI (0)) + (nI (1))), .ref 12288] _ [] rfl trivial ?_
    refine AR.callS0 [.ref 12288, .int (nI ((0 + 1))), .int (u), .int (s)] [] lk_2_46 dc_X2_fill_46 (s_2fill1 _ u s ) (by first | rfl | (simp only [nI_add, pk_mul]; first | done | rfl)) rfl ?_
    refine AR.run g_X2_fill_49_2 52 [some (.ref 12288), some (.int (nI (0))), some (.int (u)), some (.int (s)), some (.int (nI (0))), none] [] _ [] rfl trivial ?_
    refine AR.cast (L' := [some (.ref 12288), some (.int (nI (0))), some (.int (u)), some (.int (s)), some (.int (nI (0))), none]) (by first | rfl | (rw [L_2fill0_52])) rfl (by first | rfl | (rw [L_2fill0_52])) (AR.loopN 12 (fun j52 => [some (.ref 12288), some (.int (nI (0))), some (.int (u)), some (.int (s)), some (.int (nI (j52))), none]) (fun j52 => (hp o0 a0 t0 (pl pg ph ((L_2fill0_52 u s pg ph pc pm j52).1) ((L_2fill0_52 u s pg ph pc pm j52).2)) m0 u0 l0)) (fun j52 => True) (fun j52 hj52 hI52 ih52 => ?_) (fun hI52 => ?_) 0 (by omega) (by first | trivial | omega))
    · refine AR.run g_X2_fill_52_2 56 [some (.ref 12288), some (.int (nI (0))), some (.int (u)), some (.int (s)), some (.int (nI (j52))), none] [.int (nI (12)), .int (nI (j52))] _ [] rfl trivial ?_
      refine AR.ge2N (tgt := 119) (a := j52) (b := 12) dc_X2_fill_56 (by decide) (by first | rfl | (simp only [nI_add, pk_mul]; first | done | rfl)) (by first | rfl | (simp only [nI_add, pk_mul]; first | done | rfl)) (by omega) (by omega) (fun c56_3 => absurd c56_3 (by omega)) (fun c56_3 => ?_)
      refine AR.run g_X2_fill_59_4 66 [some (.ref 12288), some (.int (nI (0))), some (.int (u)), some (.int (s)), some (.int (nI (j52))), none] [.int (nI (j52)), .int (nI (0)), .ref 12289] _ [] rfl trivial ?_
      refine AR.callV1 (12289) [.int (nI (0)), .int (nI (j52))] [] lk_2_43 dc_X2_fill_66 rfl rfl (s_3atG0 _ 0 j52 (by omega) (by omega)) (by first | rfl | (simp only [nI_add, pk_mul]; first | done | rfl)) rfl ?_
      refine AR.run g_X2_fill_69_2 73 [some (.ref 12288), some (.int (nI (0))), some (.int (u)), some (.int (s)), some (.int (nI (j52))), some (.int (pg (0 * 12 + j52)))] [.int (pg (0 * 12 + j52))] _ [] rfl trivial ?_
      refine AR.le (tgt := 113) dc_X2_fill_73 (by decide) (fun c73_4 => ?_) (fun c73_4 => ?_)
      · refine AR.run g_X2_fill_113_2 52 [some (.ref 12288), some (.int (nI (0))), some (.int (u)), some (.int (s)), some (.int ((nI (j52)) + (nI (1)))), some (.int (pg (0 * 12 + j52)))] [] _ [] rfl trivial ?_
        refine AR.drop (L' := [some (.ref 12288), some (.int (nI (0))), some (.int (u)), some (.int (s)), some (.int ((nI (j52)) + (nI (1)))), none]) ⟨rfl, rfl, rfl, rfl, rfl, trivial⟩ ?_
        have e5 : L_2fill0_52 u s pg ph pc pm (j52 + 1) = ((L_2fill0_52 u s pg ph pc pm j52).1, (L_2fill0_52 u s pg ph pc pm j52).2) := by rw [L_2fill0_52, B_2fill0_52, if_pos c73_4]
        exact AR.cast (L' := [some (.ref 12288), some (.int (nI (0))), some (.int (u)), some (.int (s)), some (.int (nI (j52 + 1))), none]) (by first | rfl | (rw [nI_add]; done) | (rw [nI_add]; rfl)) rfl (by rw [e5]) (ih52 (by first | trivial | omega))
      · refine AR.run g_X2_fill_76_5 82 [some (.ref 12288), some (.int (nI (0))), some (.int (u)), some (.int (s)), some (.int (nI (j52))), some (.int (pg (0 * 12 + j52)))] [.int (u &&& ((nI (1)) <<< ((nI (j52)) &&& 31)))] _ [] rfl trivial ?_
        refine AR.ne (tgt := 113) dc_X2_fill_82 (by decide) (fun c82_6 => ?_) (fun c82_6 => ?_)
        · refine AR.run g_X2_fill_113_2 52 [some (.ref 12288), some (.int (nI (0))), some (.int (u)), some (.int (s)), some (.int ((nI (j52)) + (nI (1)))), some (.int (pg (0 * 12 + j52)))] [] _ [] rfl trivial ?_
          refine AR.drop (L' := [some (.ref 12288), some (.int (nI (0))), some (.int (u)), some (.int (s)), some (.int ((nI (j52)) + (nI (1)))), none]) ⟨rfl, rfl, rfl, rfl, rfl, trivial⟩ ?_
          have e7 : L_2fill0_52 u s pg ph pc pm (j52 + 1) = ((L_2fill0_52 u s pg ph pc pm j52).1, (L_2fill0_52 u s pg ph pc pm j52).2) := by rw [L_2fill0_52, B_2fill0_52, if_neg c73_4, if_neg c82_6]
          exact AR.cast (L' := [some (.ref 12288), some (.int (nI (0))), some (.int (u)), some (.int (s)), some (.int (nI (j52 + 1))), none]) (by first | rfl | (rw [nI_add]; done) | (rw [nI_add]; rfl)) rfl (by rw [e7]) (ih52 (by first | trivial | omega))
        · refine AR.run g_X2_fill_85_5 93 [some (.ref 12288), some (.int (nI (0))), some (.int (u)), some (.int (s)), some (.int (nI (j52))), some (.int (pg (0 * 12 + j52)))] [.int (nI (j52)), .int (nI (0)), .int (nI (0)), .ref 12295] _ [] rfl trivial ?_
          refine AR.callV0 (12295) [.int (nI (0)), .int (nI (0)), .int (nI (j52))] [] lk_2_34 dc_X2_fill_93 rfl rfl (s_3putG2 _ 0 0 (nI (j52)) (by omega) (by omega)) (by first | rfl | (simp only [nI_add, pk_mul]; first | done | rfl)) rfl ?_
          refine AR.cast (h1 := (hp o0 a0 t0 (pl pg ph (upd ((L_2fill0_52 u s pg ph pc pm j52).1) ((0 * 4) + 0) (nI (j52))) ((L_2fill0_52 u s pg ph pc pm j52).2)) m0 u0 l0)) rfl rfl rfl ?_
          refine AR.run g_X2_fill_96_12 110 [some (.ref 12288), some (.int (nI (0))), some (.int (u)), some (.int (s)), some (.int (nI (j52))), some (.int (pg (0 * 12 + j52)))] [.int (s + (pg (0 * 12 + j52))), .int (u ||| ((nI (1)) <<< ((nI (j52)) &&& 31))), .int ((nI (0)) + (nI (1))), .ref 12288] _ [] rfl trivial ?_
          refine AR.callS0 [.ref 12288, .int (nI ((0 + 1))), .int (u ||| ((nI (1)) <<< ((nI (j52)) &&& 31))), .int (s + (pg (0 * 12 + j52)))] [] lk_2_46 dc_X2_fill_110 (s_2fill1 _ (u ||| ((nI (1)) <<< ((nI (j52)) &&& 31))) (s + (pg (0 * 12 + j52))) ) (by first | rfl | (simp only [nI_add, pk_mul]; first | done | rfl)) rfl ?_
          refine AR.run g_X2_fill_113_2 52 [some (.ref 12288), some (.int (nI (0))), some (.int (u)), some (.int (s)), some (.int ((nI (j52)) + (nI (1)))), some (.int (pg (0 * 12 + j52)))] [] _ [] rfl trivial ?_
          refine AR.drop (L' := [some (.ref 12288), some (.int (nI (0))), some (.int (u)), some (.int (s)), some (.int ((nI (j52)) + (nI (1)))), none]) ⟨rfl, rfl, rfl, rfl, rfl, trivial⟩ ?_
          have e8 : L_2fill0_52 u s pg ph pc pm (j52 + 1) = (F_2fill1_pc (u ||| ((nI (1)) <<< ((nI (j52)) &&& 31))) (s + (pg (0 * 12 + j52))) pg ph (upd ((L_2fill0_52 u s pg ph pc pm j52).1) ((0 * 4) + 0) (nI (j52))) ((L_2fill0_52 u s pg ph pc pm j52).2), F_2fill1_pm (u ||| ((nI (1)) <<< ((nI (j52)) &&& 31))) (s + (pg (0 * 12 + j52))) pg ph (upd ((L_2fill0_52 u s pg ph pc pm j52).1) ((0 * 4) + 0) (nI (j52))) ((L_2fill0_52 u s pg ph pc pm j52).2)) := by rw [L_2fill0_52, B_2fill0_52, if_neg c73_4, if_pos c82_6]
          exact AR.cast (L' := [some (.ref 12288), some (.int (nI (0))), some (.int (u)), some (.int (s)), some (.int (nI (j52 + 1))), none]) (by first | rfl | (rw [nI_add]; done) | (rw [nI_add]; rfl)) rfl (by rw [e8]) (ih52 (by first | trivial | omega))
    · refine AR.run g_X2_fill_52_2 56 [some (.ref 12288), some (.int (nI (0))), some (.int (u)), some (.int (s)), some (.int (nI (12))), none] [.int (nI (12)), .int (nI (12))] _ [] rfl trivial ?_
      refine AR.ge2N (tgt := 119) (a := 12) (b := 12) dc_X2_fill_56 (by decide) (by first | rfl | (simp only [nI_add, pk_mul]; first | done | rfl)) (by first | rfl | (simp only [nI_add, pk_mul]; first | done | rfl)) (by omega) (by omega) (fun c56_9 => ?_) (fun c56_9 => absurd c56_9 (by omega))
      have e10_0 : F_2fill0_pc u s pg ph pc pm = ((L_2fill0_52 u s pg ph pc pm 12).1) := by rw [F_2fill0_pc, if_pos c26_2]
      have e10_1 : F_2fill0_pm u s pg ph pc pm = ((L_2fill0_52 u s pg ph pc pm 12).2) := by rw [F_2fill0_pm, if_pos c26_2]
      exact AR.retV dc_X2_fill_119 rfl (by rw [e10_0, e10_1])
  · have e11_0 : F_2fill0_pc u s pg ph pc pm = pc := by rw [F_2fill0_pc, if_neg c26_2]
    have e11_1 : F_2fill0_pm u s pg ph pc pm = pm := by rw [F_2fill0_pm, if_neg c26_2]
    exact AR.retV dc_X2_fill_29 rfl (by rw [e11_0, e11_1])
theorem TI_gain {c v : Nat} {m : Int32} {T : Nat → Nat → Int32} {nv nc nr ne : Nat} (hT : TI T nv nc nr ne) (hv : v < 12) : TI (F_2gainOf_T c v m nv nc T) nv nc nr ne := by
  unfold F_2gainOf_T
  (repeat' split) <;> first | exact hT | exact TI_scansIf hT hv
def B_2make_12 (m : Int32) (nv : Nat) (nc : Nat) (j2 : Nat) (j12 : Nat) (x12_4 : Int32) (y12_ar0 : Nat → Nat → Int32) (y12_pl0 : Nat → Int32) : (Int32) × (Nat → Nat → Int32) × (Nat → Int32) := (if x12_4 < (F_2gainOf (3 - j2) j12 m nv nc y12_ar0) then (F_2gainOf (3 - j2) j12 m nv nc y12_ar0) else x12_4, F_2gainOf_T (3 - j2) j12 m nv nc y12_ar0, upd y12_pl0 (((3 - j2) * 12) + j12) (F_2gainOf (3 - j2) j12 m nv nc y12_ar0))
def L_2make_12 (m : Int32) (nv : Nat) (nc : Nat) (j2 : Nat) (y2_ar0 : Nat → Nat → Int32) (y2_pl0 : Nat → Int32) : Nat → (Int32) × (Nat → Nat → Int32) × (Nat → Int32)
  | 0 => (nI (0), y2_ar0, y2_pl0)
  | j + 1 => B_2make_12 m nv nc j2 j ((L_2make_12 m nv nc j2 y2_ar0 y2_pl0  j).1) ((L_2make_12 m nv nc j2 y2_ar0 y2_pl0  j).2.1) ((L_2make_12 m nv nc j2 y2_ar0 y2_pl0  j).2.2)
def B_2make_2 (m : Int32) (nv : Nat) (nc : Nat) (j2 : Nat) (y2_ar0 : Nat → Nat → Int32) (y2_pl0 : Nat → Int32) (y2_pl1 : Nat → Int32) : (Nat → Nat → Int32) × (Nat → Int32) × (Nat → Int32) := ((L_2make_12 m nv nc j2 y2_ar0 y2_pl0 12).2.1, (L_2make_12 m nv nc j2 y2_ar0 y2_pl0 12).2.2, upd y2_pl1 (3 - j2) ((y2_pl1 ((3 - j2) + 1)) + ((L_2make_12 m nv nc j2 y2_ar0 y2_pl0 12).1)))
def L_2make_2 (m : Int32) (nv : Nat) (nc : Nat) (T : Nat → Nat → Int32) (pg : Nat → Int32) (ph : Nat → Int32) : Nat → (Nat → Nat → Int32) × (Nat → Int32) × (Nat → Int32)
  | 0 => (T, pg, ph)
  | j + 1 => B_2make_2 m nv nc j ((L_2make_2 m nv nc T pg ph  j).1) ((L_2make_2 m nv nc T pg ph  j).2.1) ((L_2make_2 m nv nc T pg ph  j).2.2)
theorem TI_mk12 {m : Int32} {nv nc nr ne j2 : Nat} {T : Nat → Nat → Int32} {pg : Nat → Int32} (hT : TI T nv nc nr ne) : ∀ j : Nat, j ≤ 12 → TI (L_2make_12 m nv nc j2 T pg j).2.1 nv nc nr ne
  | 0, _ => hT
  | j + 1, h => TI_gain (TI_mk12 hT j (by omega)) (by omega)
theorem TI_mk2 {m : Int32} {nv nc nr ne : Nat} {T : Nat → Nat → Int32} {pg ph : Nat → Int32} (hT : TI T nv nc nr ne) : ∀ j : Nat, j ≤ 4 → TI (L_2make_2 m nv nc T pg ph j).1 nv nc nr ne
  | 0, _ => hT
  | j + 1, h => TI_mk12 (TI_mk2 hT j (by omega)) 12 (by omega)
def F_2make_T (m : Int32) (nv : Nat) (nc : Nat) (T : Nat → Nat → Int32) (pg : Nat → Int32) (ph : Nat → Int32) : Nat → Nat → Int32 := ((L_2make_2 m nv nc T pg ph 4).1)
def F_2make_pg (m : Int32) (nv : Nat) (nc : Nat) (T : Nat → Nat → Int32) (pg : Nat → Int32) (ph : Nat → Int32) : Nat → Int32 := ((L_2make_2 m nv nc T pg ph 4).2.1)
def F_2make_ph (m : Int32) (nv : Nat) (nc : Nat) (T : Nat → Nat → Int32) (pg : Nat → Int32) (ph : Nat → Int32) : Nat → Int32 := ((L_2make_2 m nv nc T pg ph 4).2.2)
def F_2make_pc (m : Int32) (nv : Nat) (nc : Nat) (T : Nat → Nat → Int32) (pg : Nat → Int32) (ph : Nat → Int32) (pc : Nat → Int32) : Nat → Int32 := (F_2fill0_pc (nI (0)) (nI (0)) ((L_2make_2 m nv nc T pg ph 4).2.1) ((L_2make_2 m nv nc T pg ph 4).2.2) pc (-1))
def F_2make_pm (m : Int32) (nv : Nat) (nc : Nat) (T : Nat → Nat → Int32) (pg : Nat → Int32) (ph : Nat → Int32) (pc : Nat → Int32) : Int32 := (F_2fill0_pm (nI (0)) (nI (0)) ((L_2make_2 m nv nc T pg ph 4).2.1) ((L_2make_2 m nv nc T pg ph 4).2.2) pc (-1))
theorem g_X2_make_0_2 : ab_oks M_X2_make [(0, .iconst 3, 1, 0, 0, 0, .int (nI (3))), (1, .istore_n 3, 1, 3, 0, 0, .null)] = true := by decide +kernel
theorem g_X2_make_2_1 : ab_oks M_X2_make [(2, .iload_n 3, 1, 3, 0, 0, .null)] = true := by decide +kernel
theorem dc_X2_make_3 : decode (AM.bytes M_X2_make) 3 = .ok (.ifCond .lt 82, 3) := by decide +kernel
theorem g_X2_make_6_4 : ab_oks M_X2_make [(6, .iconst 0, 1, 0, 0, 0, .int (nI (0))), (7, .istore 4, 2, 4, 0, 0, .null), (9, .iconst 0, 1, 0, 0, 0, .int (nI (0))), (10, .istore 5, 2, 5, 0, 0, .null)] = true := by decide +kernel
theorem g_X2_make_12_2 : ab_oks M_X2_make [(12, .iload 5, 2, 5, 0, 0, .null), (14, .bipush 12, 2, 0, 0, 0, .int (nI (12)))] = true := by decide +kernel
theorem dc_X2_make_16 : decode (AM.bytes M_X2_make) 16 = .ok (.if_icmp .ge 40, 3) := by decide +kernel
theorem g_X2_make_19_4 : ab_oks M_X2_make [(19, .aload_n 1, 1, 1, 0, 0, .null), (20, .iload_n 3, 1, 3, 0, 0, .null), (21, .iload 5, 2, 5, 0, 0, .null), (23, .iload_n 2, 1, 2, 0, 0, .null)] = true := by decide +kernel
theorem lk_2_30 : ab_lkS "LeafCradles$LoadPlan" 30 M_X2_gainOf 4 [534, 535, 34, 536] = true := by decide +kernel
theorem dc_X2_make_24 : decode (AM.bytes M_X2_make) 24 = .ok (.invokestatic 30, 3) := by decide +kernel
theorem g_X2_make_27_6 : ab_oks M_X2_make [(27, .istore 6, 2, 6, 0, 0, .null), (29, .aload_n 0, 1, 0, 0, 0, .null), (30, .getfield 14, 3, 2, 0, 158, .null), (33, .iload_n 3, 1, 3, 0, 0, .null), (34, .iload 5, 2, 5, 0, 0, .null), (36, .iload 6, 2, 6, 0, 0, .null)] = true := by decide +kernel
theorem dc_X2_make_38 : decode (AM.bytes M_X2_make) 38 = .ok (.invokevirtual 34, 3) := by decide +kernel
theorem g_X2_make_41_6 : ab_oks M_X2_make [(41, .iload 4, 2, 4, 0, 0, .null), (43, .iload 6, 2, 6, 0, 0, .null), (45, .invokestatic 37, 3, 1, 0, 547, .null), (48, .istore 4, 2, 4, 0, 0, .null), (50, .iinc 5 1, 3, 5, 0, 0, .int (nI (1))), (53, .goto (-41), 3, 12, 0, 0, .null)] = true := by decide +kernel
theorem g_X2_make_56_10 : ab_oks M_X2_make [(56, .aload_n 0, 1, 0, 0, 0, .null), (57, .getfield 20, 3, 2, 1, 159, .null), (60, .iconst 0, 1, 0, 0, 0, .int (nI (0))), (61, .iload_n 3, 1, 3, 0, 0, .null), (62, .aload_n 0, 1, 0, 0, 0, .null), (63, .getfield 20, 3, 2, 1, 159, .null), (66, .iconst 0, 1, 0, 0, 0, .int (nI (0))), (67, .iload_n 3, 1, 3, 0, 0, .null), (68, .iconst 1, 1, 0, 0, 0, .int (nI (1))), (69, .iadd, 1, 0, 0, 0, .null)] = true := by decide +kernel
theorem dc_X2_make_70 : decode (AM.bytes M_X2_make) 70 = .ok (.invokevirtual 43, 3) := by decide +kernel
theorem g_X2_make_73_2 : ab_oks M_X2_make [(73, .iload 4, 2, 4, 0, 0, .null), (75, .iadd, 1, 0, 0, 0, .null)] = true := by decide +kernel
theorem dc_X2_make_76 : decode (AM.bytes M_X2_make) 76 = .ok (.invokevirtual 34, 3) := by decide +kernel
theorem g_X2_make_79_2 : ab_oks M_X2_make [(79, .iinc 3 (-1), 3, 3, 0, 0, .int (-1)), (82, .goto (-80), 3, 2, 0, 0, .null)] = true := by decide +kernel
theorem g_X2_make_85_7 : ab_oks M_X2_make [(85, .aload_n 0, 1, 0, 0, 0, .null), (86, .iconst (-1), 1, 0, 0, 0, .int (-1)), (87, .putfield 26, 3, 2, 3, 161, .null), (90, .aload_n 0, 1, 0, 0, 0, .null), (91, .iconst 0, 1, 0, 0, 0, .int (nI (0))), (92, .iconst 0, 1, 0, 0, 0, .int (nI (0))), (93, .iconst 0, 1, 0, 0, 0, .int (nI (0)))] = true := by decide +kernel
theorem dc_X2_make_94 : decode (AM.bytes M_X2_make) 94 = .ok (.invokestatic 46, 3) := by decide +kernel
theorem dc_X2_make_97 : decode (AM.bytes M_X2_make) 97 = .ok (.return_, 1) := by decide +kernel
set_option maxRecDepth 100000 in
set_option maxHeartbeats 4000000 in
theorem s_2make {E : AE} (d : Nat) (m : Int32) {nv : Nat} {nc : Nat} {nr : Nat} {ne : Nat}  {o0 t0 m0 u0 l0 : List AC} {T K : Nat → Nat → Int32} {os sc : Int32} {pg ph pc : Nat → Int32} {pm : Int32} (hT : TI T nv nc nr ne) : CT E M_X2_make (d + 7) [.ref 12288, .ref 4097, .int (m)] (hp o0 (ar T K os sc) t0 (pl pg ph pc pm) m0 u0 l0) (.inl none) (hp o0 (ar (F_2make_T m nv nc T pg ph) K os sc) t0 (pl (F_2make_pg m nv nc T pg ph) (F_2make_ph m nv nc T pg ph) (F_2make_pc m nv nc T pg ph pc) (F_2make_pm m nv nc T pg ph pc)) m0 u0 l0) 0 0 := by
  obtain ⟨⟨hnv, h12⟩, ⟨hnc, h4⟩, ⟨hnr, h3⟩, ⟨hne, h60⟩, hLT, hHT⟩ := id hT
  refine CT.of (L := [some (.ref 12288), some (.ref 4097), some (.int (m)), none, none, none, none]) rfl rfl ?_
  refine AR.run g_X2_make_0_2 2 [some (.ref 12288), some (.ref 4097), some (.int (m)), some (.int (nI (3))), none, none, none] [] _ [] rfl trivial ?_
  refine AR.cast (L' := [some (.ref 12288), some (.ref 4097), some (.int (m)), some (.int (nI 3 - nI 0)), none, none, none]) (by first | rfl | (rw [L_2make_2])) rfl (by first | rfl | (rw [L_2make_2])) (AR.loopN 4 (fun j2 => [some (.ref 12288), some (.ref 4097), some (.int (m)), some (.int (nI 3 - nI j2)), none, none, none]) (fun j2 => (hp o0 (ar ((L_2make_2 m nv nc T pg ph j2).1) K os sc) t0 (pl ((L_2make_2 m nv nc T pg ph j2).2.1) ((L_2make_2 m nv nc T pg ph j2).2.2) pc pm) m0 u0 l0)) (fun j2 => True) (fun j2 hj2 hI2 ih2 => ?_) (fun hI2 => ?_) 0 (by omega) (by first | trivial | omega))
  · have hB_0 : TI ((L_2make_2 m nv nc T pg ph j2).1) nv nc nr ne := TI_mk2 hT j2 (by omega)
    refine AR.cast (L' := [some (.ref 12288), some (.ref 4097), some (.int (m)), some (.int (nI ((3 - j2)))), none, none, none]) (by rw [pk_sub (show j2 ≤ 3 by omega)]) rfl rfl ?_
    refine AR.run g_X2_make_2_1 3 [some (.ref 12288), some (.ref 4097), some (.int (m)), some (.int (nI ((3 - j2)))), none, none, none] [.int (nI ((3 - j2)))] _ [] rfl trivial ?_
    refine AR.ltN (tgt := 85) (a := (3 - j2)) dc_X2_make_3 (by decide) (by first | rfl | (simp only [nI_add, pk_mul]; first | done | rfl)) (by omega) (fun c3_1 => absurd c3_1 (fun q => q)) (fun c3_1 => ?_)
    refine AR.run g_X2_make_6_4 12 [some (.ref 12288), some (.ref 4097), some (.int (m)), some (.int (nI ((3 - j2)))), some (.int (nI (0))), some (.int (nI (0))), none] [] _ [] rfl trivial ?_
    refine AR.cast (L' := [some (.ref 12288), some (.ref 4097), some (.int (m)), some (.int (nI ((3 - j2)))), some (.int ((L_2make_12 m nv nc j2 ((L_2make_2 m nv nc T pg ph j2).1) ((L_2make_2 m nv nc T pg ph j2).2.1) 0).1)), some (.int (nI (0))), none]) (by first | rfl | (rw [L_2make_12])) rfl (by first | rfl | (rw [L_2make_12])) (AR.loopN 12 (fun j12 => [some (.ref 12288), some (.ref 4097), some (.int (m)), some (.int (nI ((3 - j2)))), some (.int ((L_2make_12 m nv nc j2 ((L_2make_2 m nv nc T pg ph j2).1) ((L_2make_2 m nv nc T pg ph j2).2.1) j12).1)), some (.int (nI (j12))), none]) (fun j12 => (hp o0 (ar ((L_2make_12 m nv nc j2 ((L_2make_2 m nv nc T pg ph j2).1) ((L_2make_2 m nv nc T pg ph j2).2.1) j12).2.1) K os sc) t0 (pl ((L_2make_12 m nv nc j2 ((L_2make_2 m nv nc T pg ph j2).1) ((L_2make_2 m nv nc T pg ph j2).2.1) j12).2.2) ((L_2make_2 m nv nc T pg ph j2).2.2) pc pm) m0 u0 l0)) (fun j12 => True) (fun j12 hj12 hI12 ih12 => ?_) (fun hI12 => ?_) 0 (by omega) (by first | trivial | omega))
    · have hA_1 : TI ((L_2make_12 m nv nc j2 ((L_2make_2 m nv nc T pg ph j2).1) ((L_2make_2 m nv nc T pg ph j2).2.1) j12).2.1) nv nc nr ne := TI_mk12 (by assumption) j12 (by omega)
      refine AR.run g_X2_make_12_2 16 [some (.ref 12288), some (.ref 4097), some (.int (m)), some (.int (nI ((3 - j2)))), some (.int ((L_2make_12 m nv nc j2 ((L_2make_2 m nv nc T pg ph j2).1) ((L_2make_2 m nv nc T pg ph j2).2.1) j12).1)), some (.int (nI (j12))), none] [.int (nI (12)), .int (nI (j12))] _ [] rfl trivial ?_
      refine AR.ge2N (tgt := 56) (a := j12) (b := 12) dc_X2_make_16 (by decide) (by first | rfl | (simp only [nI_add, pk_mul]; first | done | rfl)) (by first | rfl | (simp only [nI_add, pk_mul]; first | done | rfl)) (by omega) (by omega) (fun c16_2 => absurd c16_2 (by omega)) (fun c16_2 => ?_)
      refine AR.run g_X2_make_19_4 24 [some (.ref 12288), some (.ref 4097), some (.int (m)), some (.int (nI ((3 - j2)))), some (.int ((L_2make_12 m nv nc j2 ((L_2make_2 m nv nc T pg ph j2).1) ((L_2make_2 m nv nc T pg ph j2).2.1) j12).1)), some (.int (nI (j12))), none] [.int (m), .int (nI (j12)), .int (nI ((3 - j2))), .ref 4097] _ [] rfl trivial ?_
      refine AR.callS1 [.ref 4097, .int (nI ((3 - j2))), .int (nI (j12)), .int (m)] [] lk_2_30 dc_X2_make_24 (s_2gainOf _ (3 - j2) j12 m hA_1 (by omega) (by omega)) (by first | rfl | (simp only [nI_add, pk_mul]; first | done | rfl)) rfl ?_
      refine AR.run g_X2_make_27_6 38 [some (.ref 12288), some (.ref 4097), some (.int (m)), some (.int (nI ((3 - j2)))), some (.int ((L_2make_12 m nv nc j2 ((L_2make_2 m nv nc T pg ph j2).1) ((L_2make_2 m nv nc T pg ph j2).2.1) j12).1)), some (.int (nI (j12))), some (.int (F_2gainOf (3 - j2) j12 m nv nc ((L_2make_12 m nv nc j2 ((L_2make_2 m nv nc T pg ph j2).1) ((L_2make_2 m nv nc T pg ph j2).2.1) j12).2.1)))] [.int (F_2gainOf (3 - j2) j12 m nv nc ((L_2make_12 m nv nc j2 ((L_2make_2 m nv nc T pg ph j2).1) ((L_2make_2 m nv nc T pg ph j2).2.1) j12).2.1)), .int (nI (j12)), .int (nI ((3 - j2))), .ref 12289] _ [] rfl trivial ?_
      refine AR.callV0 (12289) [.int (nI ((3 - j2))), .int (nI (j12)), .int (F_2gainOf (3 - j2) j12 m nv nc ((L_2make_12 m nv nc j2 ((L_2make_2 m nv nc T pg ph j2).1) ((L_2make_2 m nv nc T pg ph j2).2.1) j12).2.1))] [] lk_2_34 dc_X2_make_38 rfl rfl (s_3putG0 _ (3 - j2) j12 (F_2gainOf (3 - j2) j12 m nv nc ((L_2make_12 m nv nc j2 ((L_2make_2 m nv nc T pg ph j2).1) ((L_2make_2 m nv nc T pg ph j2).2.1) j12).2.1)) (by omega) (by omega)) (by first | rfl | (simp only [nI_add, pk_mul]; first | done | rfl)) rfl ?_
      refine AR.cast (h1 := (hp o0 (ar (F_2gainOf_T (3 - j2) j12 m nv nc ((L_2make_12 m nv nc j2 ((L_2make_2 m nv nc T pg ph j2).1) ((L_2make_2 m nv nc T pg ph j2).2.1) j12).2.1)) K os sc) t0 (pl (upd ((L_2make_12 m nv nc j2 ((L_2make_2 m nv nc T pg ph j2).1) ((L_2make_2 m nv nc T pg ph j2).2.1) j12).2.2) (((3 - j2) * 12) + j12) (F_2gainOf (3 - j2) j12 m nv nc ((L_2make_12 m nv nc j2 ((L_2make_2 m nv nc T pg ph j2).1) ((L_2make_2 m nv nc T pg ph j2).2.1) j12).2.1))) ((L_2make_2 m nv nc T pg ph j2).2.2) pc pm) m0 u0 l0)) rfl rfl rfl ?_
      refine AR.run g_X2_make_41_6 12 [some (.ref 12288), some (.ref 4097), some (.int (m)), some (.int (nI ((3 - j2)))), some (.int (if ((L_2make_12 m nv nc j2 ((L_2make_2 m nv nc T pg ph j2).1) ((L_2make_2 m nv nc T pg ph j2).2.1) j12).1) < (F_2gainOf (3 - j2) j12 m nv nc ((L_2make_12 m nv nc j2 ((L_2make_2 m nv nc T pg ph j2).1) ((L_2make_2 m nv nc T pg ph j2).2.1) j12).2.1)) then (F_2gainOf (3 - j2) j12 m nv nc ((L_2make_12 m nv nc j2 ((L_2make_2 m nv nc T pg ph j2).1) ((L_2make_2 m nv nc T pg ph j2).2.1) j12).2.1)) else ((L_2make_12 m nv nc j2 ((L_2make_2 m nv nc T pg ph j2).1) ((L_2make_2 m nv nc T pg ph j2).2.1) j12).1))), some (.int ((nI (j12)) + (nI (1)))), some (.int (F_2gainOf (3 - j2) j12 m nv nc ((L_2make_12 m nv nc j2 ((L_2make_2 m nv nc T pg ph j2).1) ((L_2make_2 m nv nc T pg ph j2).2.1) j12).2.1)))] [] _ [] rfl trivial ?_
      refine AR.drop (L' := [some (.ref 12288), some (.ref 4097), some (.int (m)), some (.int (nI ((3 - j2)))), some (.int (if ((L_2make_12 m nv nc j2 ((L_2make_2 m nv nc T pg ph j2).1) ((L_2make_2 m nv nc T pg ph j2).2.1) j12).1) < (F_2gainOf (3 - j2) j12 m nv nc ((L_2make_12 m nv nc j2 ((L_2make_2 m nv nc T pg ph j2).1) ((L_2make_2 m nv nc T pg ph j2).2.1) j12).2.1)) then (F_2gainOf (3 - j2) j12 m nv nc ((L_2make_12 m nv nc j2 ((L_2make_2 m nv nc T pg ph j2).1) ((L_2make_2 m nv nc T pg ph j2).2.1) j12).2.1)) else ((L_2make_12 m nv nc j2 ((L_2make_2 m nv nc T pg ph j2).1) ((L_2make_2 m nv nc T pg ph j2).2.1) j12).1))), some (.int ((nI (j12)) + (nI (1)))), none]) ⟨rfl, rfl, rfl, rfl, rfl, rfl, trivial⟩ ?_
      have e3 : L_2make_12 m nv nc j2 ((L_2make_2 m nv nc T pg ph j2).1) ((L_2make_2 m nv nc T pg ph j2).2.1) (j12 + 1) = (if ((L_2make_12 m nv nc j2 ((L_2make_2 m nv nc T pg ph j2).1) ((L_2make_2 m nv nc T pg ph j2).2.1) j12).1) < (F_2gainOf (3 - j2) j12 m nv nc ((L_2make_12 m nv nc j2 ((L_2make_2 m nv nc T pg ph j2).1) ((L_2make_2 m nv nc T pg ph j2).2.1) j12).2.1)) then (F_2gainOf (3 - j2) j12 m nv nc ((L_2make_12 m nv nc j2 ((L_2make_2 m nv nc T pg ph j2).1) ((L_2make_2 m nv nc T pg ph j2).2.1) j12).2.1)) else ((L_2make_12 m nv nc j2 ((L_2make_2 m nv nc T pg ph j2).1) ((L_2make_2 m nv nc T pg ph j2).2.1) j12).1), F_2gainOf_T (3 - j2) j12 m nv nc ((L_2make_12 m nv nc j2 ((L_2make_2 m nv nc T pg ph j2).1) ((L_2make_2 m nv nc T pg ph j2).2.1) j12).2.1), upd ((L_2make_12 m nv nc j2 ((L_2make_2 m nv nc T pg ph j2).1) ((L_2make_2 m nv nc T pg ph j2).2.1) j12).2.2) (((3 - j2) * 12) + j12) (F_2gainOf (3 - j2) j12 m nv nc ((L_2make_12 m nv nc j2 ((L_2make_2 m nv nc T pg ph j2).1) ((L_2make_2 m nv nc T pg ph j2).2.1) j12).2.1))) := by rw [L_2make_12, B_2make_12]
      exact AR.cast (L' := [some (.ref 12288), some (.ref 4097), some (.int (m)), some (.int (nI ((3 - j2)))), some (.int ((L_2make_12 m nv nc j2 ((L_2make_2 m nv nc T pg ph j2).1) ((L_2make_2 m nv nc T pg ph j2).2.1) (j12 + 1)).1)), some (.int (nI (j12 + 1))), none]) (by rw [e3, nI_add]) rfl (by rw [e3]) (ih12 (by first | trivial | omega))
    · have hA_3 : TI ((L_2make_12 m nv nc j2 ((L_2make_2 m nv nc T pg ph j2).1) ((L_2make_2 m nv nc T pg ph j2).2.1) 12).2.1) nv nc nr ne := TI_mk12 (by assumption) 12 (by omega)
      refine AR.run g_X2_make_12_2 16 [some (.ref 12288), some (.ref 4097), some (.int (m)), some (.int (nI ((3 - j2)))), some (.int ((L_2make_12 m nv nc j2 ((L_2make_2 m nv nc T pg ph j2).1) ((L_2make_2 m nv nc T pg ph j2).2.1) 12).1)), some (.int (nI (12))), none] [.int (nI (12)), .int (nI (12))] _ [] rfl trivial ?_
      refine AR.ge2N (tgt := 56) (a := 12) (b := 12) dc_X2_make_16 (by decide) (by first | rfl | (simp only [nI_add, pk_mul]; first | done | rfl)) (by first | rfl | (simp only [nI_add, pk_mul]; first | done | rfl)) (by omega) (by omega) (fun c16_4 => ?_) (fun c16_4 => absurd c16_4 (by omega))
      refine AR.run g_X2_make_56_10 70 [some (.ref 12288), some (.ref 4097), some (.int (m)), some (.int (nI ((3 - j2)))), some (.int ((L_2make_12 m nv nc j2 ((L_2make_2 m nv nc T pg ph j2).1) ((L_2make_2 m nv nc T pg ph j2).2.1) 12).1)), some (.int (nI (12))), none] [.int ((nI ((3 - j2))) + (nI (1))), .int (nI (0)), .ref 12292, .int (nI ((3 - j2))), .int (nI (0)), .ref 12292] _ [] rfl trivial ?_
      refine AR.callV1 (12292) [.int (nI (0)), .int (nI (((3 - j2) + 1)))] [.int (nI ((3 - j2))), .int (nI (0)), .ref 12292] lk_2_43 dc_X2_make_70 rfl rfl (s_3atG1 _ ((3 - j2) + 1) (by omega)) (by first | rfl | (simp only [nI_add, pk_mul]; first | done | rfl)) rfl ?_
      refine AR.run g_X2_make_73_2 76 [some (.ref 12288), some (.ref 4097), some (.int (m)), some (.int (nI ((3 - j2)))), some (.int ((L_2make_12 m nv nc j2 ((L_2make_2 m nv nc T pg ph j2).1) ((L_2make_2 m nv nc T pg ph j2).2.1) 12).1)), some (.int (nI (12))), none] [.int ((((L_2make_2 m nv nc T pg ph j2).2.2) ((3 - j2) + 1)) + ((L_2make_12 m nv nc j2 ((L_2make_2 m nv nc T pg ph j2).1) ((L_2make_2 m nv nc T pg ph j2).2.1) 12).1)), .int (nI ((3 - j2))), .int (nI (0)), .ref 12292] _ [] rfl trivial ?_
      refine AR.callV0 (12292) [.int (nI (0)), .int (nI ((3 - j2))), .int ((((L_2make_2 m nv nc T pg ph j2).2.2) ((3 - j2) + 1)) + ((L_2make_12 m nv nc j2 ((L_2make_2 m nv nc T pg ph j2).1) ((L_2make_2 m nv nc T pg ph j2).2.1) 12).1))] [] lk_2_34 dc_X2_make_76 rfl rfl (s_3putG1 _ (3 - j2) ((((L_2make_2 m nv nc T pg ph j2).2.2) ((3 - j2) + 1)) + ((L_2make_12 m nv nc j2 ((L_2make_2 m nv nc T pg ph j2).1) ((L_2make_2 m nv nc T pg ph j2).2.1) 12).1)) (by omega)) (by first | rfl | (simp only [nI_add, pk_mul]; first | done | rfl)) rfl ?_
      refine AR.cast (h1 := (hp o0 (ar ((L_2make_12 m nv nc j2 ((L_2make_2 m nv nc T pg ph j2).1) ((L_2make_2 m nv nc T pg ph j2).2.1) 12).2.1) K os sc) t0 (pl ((L_2make_12 m nv nc j2 ((L_2make_2 m nv nc T pg ph j2).1) ((L_2make_2 m nv nc T pg ph j2).2.1) 12).2.2) (upd ((L_2make_2 m nv nc T pg ph j2).2.2) (3 - j2) ((((L_2make_2 m nv nc T pg ph j2).2.2) ((3 - j2) + 1)) + ((L_2make_12 m nv nc j2 ((L_2make_2 m nv nc T pg ph j2).1) ((L_2make_2 m nv nc T pg ph j2).2.1) 12).1))) pc pm) m0 u0 l0)) rfl rfl rfl ?_
      refine AR.run g_X2_make_79_2 2 [some (.ref 12288), some (.ref 4097), some (.int (m)), some (.int ((nI ((3 - j2))) + (-1))), some (.int ((L_2make_12 m nv nc j2 ((L_2make_2 m nv nc T pg ph j2).1) ((L_2make_2 m nv nc T pg ph j2).2.1) 12).1)), some (.int (nI (12))), none] [] _ [] rfl trivial ?_
      refine AR.drop (L' := [some (.ref 12288), some (.ref 4097), some (.int (m)), some (.int ((nI ((3 - j2))) + (-1))), none, none, none]) ⟨rfl, rfl, rfl, rfl, trivial⟩ ?_
      have e5 : L_2make_2 m nv nc T pg ph (j2 + 1) = ((L_2make_12 m nv nc j2 ((L_2make_2 m nv nc T pg ph j2).1) ((L_2make_2 m nv nc T pg ph j2).2.1) 12).2.1, (L_2make_12 m nv nc j2 ((L_2make_2 m nv nc T pg ph j2).1) ((L_2make_2 m nv nc T pg ph j2).2.1) 12).2.2, upd ((L_2make_2 m nv nc T pg ph j2).2.2) (3 - j2) ((((L_2make_2 m nv nc T pg ph j2).2.2) ((3 - j2) + 1)) + ((L_2make_12 m nv nc j2 ((L_2make_2 m nv nc T pg ph j2).1) ((L_2make_2 m nv nc T pg ph j2).2.1) 12).1))) := by rw [L_2make_2, B_2make_2]
      exact AR.cast (L' := [some (.ref 12288), some (.ref 4097), some (.int (m)), some (.int (nI 3 - nI (j2 + 1))), none, none, none]) (by first | (rw [dn_step (show j2 ≤ 3 by omega)]; done) | (rw [e5, dn_step (show j2 ≤ 3 by omega)]; done)) rfl (by rw [e5]) (ih2 (by first | trivial | omega))
  · have hB_5 : TI ((L_2make_2 m nv nc T pg ph 4).1) nv nc nr ne := TI_mk2 hT 4 (by omega)
    refine AR.run g_X2_make_2_1 3 [some (.ref 12288), some (.ref 4097), some (.int (m)), some (.int (nI 3 - nI 4)), none, none, none] [.int (nI 3 - nI 4)] _ [] rfl trivial ?_
    refine AR.lt (tgt := 85) dc_X2_make_3 (by decide) (fun c3_6 => ?_) (fun c3_6 => absurd c3_6 (by decide))
    refine AR.run g_X2_make_85_7 94 [some (.ref 12288), some (.ref 4097), some (.int (m)), some (.int (nI 3 - nI 4)), none, none, none] [.int (nI (0)), .int (nI (0)), .int (nI (0)), .ref 12288] (hp o0 (ar ((L_2make_2 m nv nc T pg ph 4).1) K os sc) t0 (pl ((L_2make_2 m nv nc T pg ph 4).2.1) ((L_2make_2 m nv nc T pg ph 4).2.2) pc (-1)) m0 u0 l0) [] rfl trivial ?_
    refine AR.callS0 [.ref 12288, .int (nI (0)), .int (nI (0)), .int (nI (0))] [] lk_2_46 dc_X2_make_94 (s_2fill0 _ (nI (0)) (nI (0)) ) (by first | rfl | (simp only [nI_add, pk_mul]; first | done | rfl)) rfl ?_
    have e7_0 : F_2make_T m nv nc T pg ph = ((L_2make_2 m nv nc T pg ph 4).1) := by rw [F_2make_T]
    have e7_1 : F_2make_pg m nv nc T pg ph = ((L_2make_2 m nv nc T pg ph 4).2.1) := by rw [F_2make_pg]
    have e7_2 : F_2make_ph m nv nc T pg ph = ((L_2make_2 m nv nc T pg ph 4).2.2) := by rw [F_2make_ph]
    have e7_3 : F_2make_pc m nv nc T pg ph pc = (F_2fill0_pc (nI (0)) (nI (0)) ((L_2make_2 m nv nc T pg ph 4).2.1) ((L_2make_2 m nv nc T pg ph 4).2.2) pc (-1)) := by rw [F_2make_pc]
    have e7_4 : F_2make_pm m nv nc T pg ph pc = (F_2fill0_pm (nI (0)) (nI (0)) ((L_2make_2 m nv nc T pg ph 4).2.1) ((L_2make_2 m nv nc T pg ph 4).2.2) pc (-1)) := by rw [F_2make_pm]
    exact AR.retV dc_X2_make_97 rfl (by rw [e7_0, e7_1, e7_2, e7_3, e7_4])
