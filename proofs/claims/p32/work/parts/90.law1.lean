/-! THE LAW'S SMALL METHODS -/
def lL (vo : Nat → Int32) (v : Nat) : Nat := (vo (7 * v + 2)).toNatClampNeg
/-- the volume on a cradle -/
def onL (vo : Nat → Int32) (x : Int32) (n : Nat) : Option Nat := fi (fun j => vo (7 * j + 5) = x) n 0
def onG (vo : Nat → Int32) (x : Int32) (n : Nat) : Nat := (onL vo x n).getD 0
theorem oI_get {o : Option Nat} (h : 0 ≤ oI o) : ∃ q, o = some q := by
  cases o with
  | none => exact absurd h (by decide)
  | some q => exact ⟨q, rfl⟩
theorem onL_get {vo : Nat → Int32} {x : Int32} {n : Nat} (h : 0 ≤ oI (onL vo x n)) : onL vo x n = some (onG vo x n) ∧ onG vo x n < n := by
  obtain ⟨q, hq⟩ := oI_get h
  unfold onG
  rw [hq]
  exact ⟨rfl, by have := (fi_some hq).2.1; show q < n; omega⟩
/-- the leaf that comes first -/
def nxL (vo ls : Nat → Int32) (v : Nat) : Option Nat := nlB (fun k => ls (8 * v + k)) (lL vo v) 0
def nxG (vo ls : Nat → Int32) (v : Nat) : Nat := (nxL vo ls v).getD 0
theorem nlB_lt {f : Nat → Int32} {m q : Nat} (h : nlB f m 0 = some q) : q < m := by
  unfold nlB at h
  split at h
  · rename_i q2 hq
    cases h
    have := (fi_some hq).2.1
    omega
  · have := (fi_some h).2.1
    omega
theorem nxL_get {vo ls : Nat → Int32} {v : Nat} (h : 0 ≤ oI (nxL vo ls v)) : nxL vo ls v = some (nxG vo ls v) ∧ nxG vo ls v < lL vo v := by
  obtain ⟨q, hq⟩ := oI_get h
  unfold nxG
  rw [hq]
  exact ⟨rfl, nlB_lt hq⟩
theorem g_L_at_0_3 : ab_oks M_L_at [(0, .iload_n 0, 1, 0, 0, 0, .null), (1, .iconst 1, 1, 0, 0, 0, .int (nI (1))), (2, .iushr, 1, 0, 0, 0, .null)] = true := by decide +kernel
theorem g_L_at_3_1 : ab_oks M_L_at [(3, .iload_n 1, 1, 1, 0, 0, .null)] = true := by decide +kernel
theorem g_L_at_4_1 : ab_oks M_L_at [(4, .irem, 1, 0, 0, 0, .null)] = true := by decide +kernel
theorem dc_L_at_5 : decode (AM.bytes M_L_at) 5 = .ok (.ireturn, 1) := by decide +kernel
set_option maxRecDepth 100000 in
set_option maxHeartbeats 4000000 in
theorem s_Lat {E : AE} (d : Nat) (x : Nat) (n : Nat)  {h : AH} (hx : x < 2147483648) (hn : 0 < n) (hn2 : n < 2147483648) : CT E M_L_at d [.int (nI (x)), .int (nI (n))] h (.inl (some (.int (nI (((x / 2) % n)))))) h 0 0 := by
  refine CT.of (L := [some (.int (nI (x))), some (.int (nI (n)))]) rfl rfl ?_
  refine AR.run g_L_at_0_3 3 [some (.int (nI (x))), some (.int (nI (n)))] [.int (((nI (x)).toUInt32 >>> ((nI (1)).toUInt32 &&& Int32.toUInt32 31)).toInt32)] _ [] rfl trivial ?_
  refine AR.cast (L' := [some (.int (nI (x))), some (.int (nI (n)))]) (st' := [.int (nI ((x / 2)))]) rfl (by rw [nI_ushr1 (by omega)]) rfl ?_
  refine AR.run g_L_at_3_1 4 [some (.int (nI (x))), some (.int (nI (n)))] [.int (nI (n)), .int (nI ((x / 2)))] _ [] rfl trivial ?_
  refine AR.run g_L_at_4_1 5 [some (.int (nI (x))), some (.int (nI (n)))] [.int ((nI ((x / 2))) - (nI ((x / 2))) / (nI (n)) * (nI (n)))] _ [¬ (nI (n)) = 0] rfl (show ¬ ((nI (n)) = (0 : Int32)) from by first | decide | exact nI_ne0 (by omega) (by omega)) ?_
  refine AR.top (y := nI ((x / 2) % n)) (pk_rem (by omega) (by first | decide | omega) (by first | decide | omega)) ?_
  exact AR.retI dc_L_at_5 rfl rfl rfl
def F_Labs (x : Int32) : Int32 := if 0 ≤ x then x else (-x)
theorem g_L_abs_0_1 : ab_oks M_L_abs [(0, .iload_n 0, 1, 0, 0, 0, .null)] = true := by decide +kernel
theorem dc_L_abs_1 : decode (AM.bytes M_L_abs) 1 = .ok (.ifCond .ge 8, 3) := by decide +kernel
theorem g_L_abs_9_1 : ab_oks M_L_abs [(9, .iload_n 0, 1, 0, 0, 0, .null)] = true := by decide +kernel
theorem dc_L_abs_10 : decode (AM.bytes M_L_abs) 10 = .ok (.ireturn, 1) := by decide +kernel
theorem g_L_abs_4_3 : ab_oks M_L_abs [(4, .iload_n 0, 1, 0, 0, 0, .null), (5, .ineg, 1, 0, 0, 0, .null), (6, .goto 4, 3, 10, 0, 0, .null)] = true := by decide +kernel
set_option maxRecDepth 100000 in
set_option maxHeartbeats 4000000 in
theorem s_Labs {E : AE} (d : Nat) (x : Int32)  {h : AH} : CT E M_L_abs d [.int (x)] h (.inl (some (.int (F_Labs x)))) h 0 0 := by
  refine CT.of (L := [some (.int (x))]) rfl rfl ?_
  refine AR.run g_L_abs_0_1 1 [some (.int (x))] [.int (x)] _ [] rfl trivial ?_
  refine AR.ge (tgt := 9) dc_L_abs_1 (by decide) (fun c1_1 => ?_) (fun c1_1 => ?_)
  · refine AR.run g_L_abs_9_1 10 [some (.int (x))] [.int (x)] _ [] rfl trivial ?_
    have e2_0 : F_Labs x = x := by rw [F_Labs, if_pos c1_1]
    exact AR.retI dc_L_abs_10 rfl e2_0.symm rfl
  · refine AR.run g_L_abs_4_3 10 [some (.int (x))] [.int (-x)] _ [] rfl trivial ?_
    have e3_0 : F_Labs x = (-x) := by rw [F_Labs, if_neg c1_1]
    exact AR.retI dc_L_abs_10 rfl e3_0.symm rfl
def F_Lcell (k : Nat) (sx : Nat → Int32) (sl : Nat) : Int32 := if sl ≤ k then ((nI (793416151)) * ((nI (k)) + (nI (1)))) else (sx k)
theorem g_L_cell_0_3 : ab_oks M_L_cell [(0, .iload_n 1, 1, 1, 0, 0, .null), (1, .aload_n 0, 1, 0, 0, 0, .null), (2, .arraylength, 1, 0, 0, 0, .null)] = true := by decide +kernel
theorem dc_L_cell_3 : decode (AM.bytes M_L_cell) 3 = .ok (.if_icmp .ge 9, 3) := by decide +kernel
theorem g_L_cell_12_5 : ab_oks M_L_cell [(12, .ldc 7, 2, 0, 0, 307, .int (nI (793416151))), (14, .iload_n 1, 1, 1, 0, 0, .null), (15, .iconst 1, 1, 0, 0, 0, .int (nI (1))), (16, .iadd, 1, 0, 0, 0, .null), (17, .imul, 1, 0, 0, 0, .null)] = true := by decide +kernel
theorem dc_L_cell_18 : decode (AM.bytes M_L_cell) 18 = .ok (.ireturn, 1) := by decide +kernel
theorem g_L_cell_6_2 : ab_oks M_L_cell [(6, .aload_n 0, 1, 0, 0, 0, .null), (7, .iload_n 1, 1, 1, 0, 0, .null)] = true := by decide +kernel
theorem ok_L_cell_8 : ab_ok M_L_cell (8, .iaload, 1, 0, 0, 0, .null) = true := by decide +kernel
theorem g_L_cell_9_1 : ab_oks M_L_cell [(9, .goto 9, 3, 18, 0, 0, .null)] = true := by decide +kernel
set_option maxRecDepth 100000 in
set_option maxHeartbeats 4000000 in
theorem s_Lcell {E : AE} (d : Nat) (k : Nat)  {a0 t0 p0 m0 u0 l0 : List AC} {sx : Nat → Int32} {sl : Nat} (hk : k < 1000) (hsl : sl ≤ 1000) : CT E M_L_cell d [.ref 0, .int (nI (k))] (hp (ol_ sx sl lsS gsS) a0 t0 p0 m0 u0 l0) (.inl (some (.int (F_Lcell k sx sl)))) (hp (ol_ sx sl lsS gsS) a0 t0 p0 m0 u0 l0) 0 0 := by
  refine CT.of (L := [some (.ref 0), some (.int (nI (k)))]) rfl rfl ?_
  refine AR.run g_L_cell_0_3 3 [some (.ref 0), some (.int (nI (k)))] [.int (nI (sl)), .int (nI (k))] _ [] rfl trivial ?_
  refine AR.ge2N (tgt := 12) (a := k) (b := sl) dc_L_cell_3 (by decide) (by first | rfl | (simp only [nI_add, pk_mul]; first | done | rfl)) (by first | rfl | (simp only [nI_add, pk_mul]; first | done | rfl)) (by omega) (by omega) (fun c3_1 => ?_) (fun c3_1 => ?_)
  · refine AR.run g_L_cell_12_5 18 [some (.ref 0), some (.int (nI (k)))] [.int ((nI (793416151)) * ((nI (k)) + (nI (1))))] _ [] rfl trivial ?_
    have e2_0 : F_Lcell k sx sl = ((nI (793416151)) * ((nI (k)) + (nI (1)))) := by rw [F_Lcell, if_pos (show sl ≤ k from by omega)]
    exact AR.retI dc_L_cell_18 rfl e2_0.symm rfl
  · refine AR.run g_L_cell_6_2 8 [some (.ref 0), some (.int (nI (k)))] [.int (nI (k)), .ref 0] _ [] rfl trivial ?_
    refine AR.ald (n := 0) (e := k) ok_L_cell_8 (by first | rfl | (simp only [nI_add, pk_mul]; first | done | rfl)) rfl (by omega) (by first | decide | omega) ?_
    refine AR.run g_L_cell_9_1 18 [some (.ref 0), some (.int (nI (k)))] [.int (sx k)] _ [] rfl trivial ?_
    have e3_0 : F_Lcell k sx sl = (sx k) := by rw [F_Lcell, if_neg (show ¬ (sl ≤ k) from by omega)]
    exact AR.retI dc_L_cell_18 rfl e3_0.symm rfl
def W_Lon_2 (x : Int32) (vo : Nat → Int32) : Nat → Nat → (Int32)
  | 0, j2 => (-1)
  | f2 + 1, j2 => if (vo ((7 * j2) + 5)) = x then (nI (j2)) else W_Lon_2 x vo f2 (j2 + 1) 
theorem g_L_on_0_2 : ab_oks M_L_on [(0, .iconst 0, 1, 0, 0, 0, .int (nI (0))), (1, .istore_n 3, 1, 3, 0, 0, .null)] = true := by decide +kernel
theorem g_L_on_2_3 : ab_oks M_L_on [(2, .iload_n 3, 1, 3, 0, 0, .null), (3, .aload_n 2, 1, 2, 0, 0, .null), (4, .iconst 0, 1, 0, 0, 0, .int (nI (0)))] = true := by decide +kernel
theorem ok_L_on_5 : ab_ok M_L_on (5, .iaload, 1, 0, 0, 0, .null) = true := by decide +kernel
theorem dc_L_on_6 : decode (AM.bytes M_L_on) 6 = .ok (.if_icmp .ge 23, 3) := by decide +kernel
theorem g_L_on_29_1 : ab_oks M_L_on [(29, .iconst (-1), 1, 0, 0, 0, .int (-1))] = true := by decide +kernel
theorem dc_L_on_30 : decode (AM.bytes M_L_on) 30 = .ok (.ireturn, 1) := by decide +kernel
theorem g_L_on_9_6 : ab_oks M_L_on [(9, .aload_n 1, 1, 1, 0, 0, .null), (10, .bipush 7, 2, 0, 0, 0, .int (nI (7))), (12, .iload_n 3, 1, 3, 0, 0, .null), (13, .imul, 1, 0, 0, 0, .null), (14, .iconst 5, 1, 0, 0, 0, .int (nI (5))), (15, .iadd, 1, 0, 0, 0, .null)] = true := by decide +kernel
theorem ok_L_on_16 : ab_ok M_L_on (16, .iaload, 1, 0, 0, 0, .null) = true := by decide +kernel
theorem g_L_on_17_1 : ab_oks M_L_on [(17, .iload_n 0, 1, 0, 0, 0, .null)] = true := by decide +kernel
theorem dc_L_on_18 : decode (AM.bytes M_L_on) 18 = .ok (.if_icmp .ne 5, 3) := by decide +kernel
theorem g_L_on_23_2 : ab_oks M_L_on [(23, .iinc 3 1, 3, 3, 0, 0, .int (nI (1))), (26, .goto (-24), 3, 2, 0, 0, .null)] = true := by decide +kernel
theorem g_L_on_21_1 : ab_oks M_L_on [(21, .iload_n 3, 1, 3, 0, 0, .null)] = true := by decide +kernel
theorem dc_L_on_22 : decode (AM.bytes M_L_on) 22 = .ok (.ireturn, 1) := by decide +kernel
set_option maxRecDepth 100000 in
set_option maxHeartbeats 4000000 in
theorem s_Lon {E : AE} (d : Nat) (x : Int32) {nv : Nat}  {o0 a0 t0 p0 u0 l0 : List AC} {vo ls ln lb cr ca lo st cc : Nat → Int32} (hc0 : cc 0 = nI nv) (h4 : nv ≤ 4) : CT E M_L_on d [.int (x), .ref 16384, .ref 16392] (hp o0 a0 t0 p0 (la_ vo ls ln lb cr ca lo st cc) u0 l0) (.inl (some (.int (W_Lon_2 x vo nv 0 )))) (hp o0 a0 t0 p0 (la_ vo ls ln lb cr ca lo st cc) u0 l0) 0 0 := by
  refine CT.of (L := [some (.int (x)), some (.ref 16384), some (.ref 16392), none]) rfl rfl ?_
  refine AR.run g_L_on_0_2 2 [some (.int (x)), some (.ref 16384), some (.ref 16392), some (.int (nI (0)))] [] _ [] rfl trivial ?_
  have hW : ∀ (f2 j2 : Nat), j2 + f2 = nv → AR E M_L_on d 2 [some (.int (x)), some (.ref 16384), some (.ref 16392), some (.int (nI (j2)))] [] (hp o0 a0 t0 p0 (la_ vo ls ln lb cr ca lo st cc) u0 l0) (.inl (some (.int (W_Lon_2 x vo f2 j2 )))) (hp o0 a0 t0 p0 (la_ vo ls ln lb cr ca lo st cc) u0 l0) 0 0 := by
    intro f2
    induction f2 with
    | zero => 
      intro j2  hj2
      refine AR.run g_L_on_2_3 5 [some (.int (x)), some (.ref 16384), some (.ref 16392), some (.int (nI (j2)))] [.int (nI (0)), .ref 16392, .int (nI (j2))] _ [] rfl trivial ?_
      refine AR.ald (n := 0) (e := 0) ok_L_on_5 (by first | rfl | (simp only [nI_add, pk_mul]; first | done | rfl)) rfl (by omega) (by first | decide | omega) ?_
      refine AR.top hc0 ?_
      refine AR.ge2N (tgt := 29) (a := j2) (b := nv) dc_L_on_6 (by decide) (by first | rfl | (simp only [nI_add, pk_mul]; first | done | rfl)) (by first | rfl | (simp only [nI_add, pk_mul]; first | done | rfl)) (by omega) (by omega) (fun c6_1 => ?_) (fun c6_1 => absurd c6_1 (by omega))
      refine AR.run g_L_on_29_1 30 [some (.int (x)), some (.ref 16384), some (.ref 16392), some (.int (nI (j2)))] [.int (-1)] _ [] rfl trivial ?_
      have e2 : W_Lon_2 x vo 0 j2  = (-1) := by rw [W_Lon_2]
      rw [e2]
      exact AR.retI dc_L_on_30 rfl rfl rfl
    | succ f2 ih2 => 
      intro j2  hj2
      refine AR.run g_L_on_2_3 5 [some (.int (x)), some (.ref 16384), some (.ref 16392), some (.int (nI (j2)))] [.int (nI (0)), .ref 16392, .int (nI (j2))] _ [] rfl trivial ?_
      refine AR.ald (n := 0) (e := 0) ok_L_on_5 (by first | rfl | (simp only [nI_add, pk_mul]; first | done | rfl)) rfl (by omega) (by first | decide | omega) ?_
      refine AR.top hc0 ?_
      refine AR.ge2N (tgt := 29) (a := j2) (b := nv) dc_L_on_6 (by decide) (by first | rfl | (simp only [nI_add, pk_mul]; first | done | rfl)) (by first | rfl | (simp only [nI_add, pk_mul]; first | done | rfl)) (by omega) (by omega) (fun c6_3 => absurd c6_3 (by omega)) (fun c6_3 => ?_)
      refine AR.run g_L_on_9_6 16 [some (.int (x)), some (.ref 16384), some (.ref 16392), some (.int (nI (j2)))] [.int (((nI (7)) * (nI (j2))) + (nI (5))), .ref 16384] _ [] rfl trivial ?_
      refine AR.ald (n := 0) (e := ((7 * j2) + 5)) ok_L_on_16 (by first | rfl | (simp only [nI_add, pk_mul]; first | done | rfl)) rfl (by omega) (by first | decide | omega) ?_
      refine AR.run g_L_on_17_1 18 [some (.int (x)), some (.ref 16384), some (.ref 16392), some (.int (nI (j2)))] [.int (x), .int (vo ((7 * j2) + 5))] _ [] rfl trivial ?_
      refine AR.ne2 (tgt := 23) dc_L_on_18 (by decide) (fun c18_4 => ?_) (fun c18_4 => ?_)
      · refine AR.run g_L_on_23_2 2 [some (.int (x)), some (.ref 16384), some (.ref 16392), some (.int ((nI (j2)) + (nI (1))))] [] _ [] rfl trivial ?_
        have e5 : W_Lon_2 x vo (f2 + 1) j2  = W_Lon_2 x vo f2 (j2 + 1)  := by rw [W_Lon_2, if_neg c18_4]
        rw [e5]
        exact AR.cast (L' := [some (.int (x)), some (.ref 16384), some (.ref 16392), some (.int (nI (j2 + 1)))]) (by first | rfl | rw [nI_add]) rfl rfl (ih2 (j2 + 1)  (by omega) )
      · refine AR.run g_L_on_21_1 22 [some (.int (x)), some (.ref 16384), some (.ref 16392), some (.int (nI (j2)))] [.int (nI (j2))] _ [] rfl trivial ?_
        have e6 : W_Lon_2 x vo (f2 + 1) j2  = (nI (j2)) := by rw [W_Lon_2, if_pos c18_4]
        rw [e6]
        exact AR.retI dc_L_on_22 rfl rfl rfl
  exact AR.end' rfl rfl (AR.cast rfl rfl rfl (hW nv 0  (by omega)))
set_option maxRecDepth 100000 in
set_option maxHeartbeats 4000000 in
theorem s_LonC {E : AE} (d : Nat) (x : Int32) {nv : Nat}  {o0 a0 t0 p0 u0 : List AC} {vo1 ls1 ln1 lb cr1 ca1 lo st cc1 vo ls ln cr ca cc : Nat → Int32} (hc0 : cc 0 = nI nv) (h4 : nv ≤ 4) : CT E M_L_on d [.int (x), .ref 24576, .ref 24581] (hp o0 a0 t0 p0 (la_ vo1 ls1 ln1 lb cr1 ca1 lo st cc1) u0 (xs_ (co_ vo ls ln cr ca cc))) (.inl (some (.int (W_Lon_2 x vo nv 0 )))) (hp o0 a0 t0 p0 (la_ vo1 ls1 ln1 lb cr1 ca1 lo st cc1) u0 (xs_ (co_ vo ls ln cr ca cc))) 0 0 := by
  refine CT.of (L := [some (.int (x)), some (.ref 24576), some (.ref 24581), none]) rfl rfl ?_
  refine AR.run g_L_on_0_2 2 [some (.int (x)), some (.ref 24576), some (.ref 24581), some (.int (nI (0)))] [] _ [] rfl trivial ?_
  have hW : ∀ (f2 j2 : Nat), j2 + f2 = nv → AR E M_L_on d 2 [some (.int (x)), some (.ref 24576), some (.ref 24581), some (.int (nI (j2)))] [] (hp o0 a0 t0 p0 (la_ vo1 ls1 ln1 lb cr1 ca1 lo st cc1) u0 (xs_ (co_ vo ls ln cr ca cc))) (.inl (some (.int (W_Lon_2 x vo f2 j2 )))) (hp o0 a0 t0 p0 (la_ vo1 ls1 ln1 lb cr1 ca1 lo st cc1) u0 (xs_ (co_ vo ls ln cr ca cc))) 0 0 := by
    intro f2
    induction f2 with
    | zero => 
      intro j2  hj2
      refine AR.run g_L_on_2_3 5 [some (.int (x)), some (.ref 24576), some (.ref 24581), some (.int (nI (j2)))] [.int (nI (0)), .ref 24581, .int (nI (j2))] _ [] rfl trivial ?_
      refine AR.ald (n := 0) (e := 0) ok_L_on_5 (by first | rfl | (simp only [nI_add, pk_mul]; first | done | rfl)) rfl (by omega) (by first | decide | omega) ?_
      refine AR.top hc0 ?_
      refine AR.ge2N (tgt := 29) (a := j2) (b := nv) dc_L_on_6 (by decide) (by first | rfl | (simp only [nI_add, pk_mul]; first | done | rfl)) (by first | rfl | (simp only [nI_add, pk_mul]; first | done | rfl)) (by omega) (by omega) (fun c6_1 => ?_) (fun c6_1 => absurd c6_1 (by omega))
      refine AR.run g_L_on_29_1 30 [some (.int (x)), some (.ref 24576), some (.ref 24581), some (.int (nI (j2)))] [.int (-1)] _ [] rfl trivial ?_
      have e2 : W_Lon_2 x vo 0 j2  = (-1) := by rw [W_Lon_2]
      rw [e2]
      exact AR.retI dc_L_on_30 rfl rfl rfl
    | succ f2 ih2 => 
      intro j2  hj2
      refine AR.run g_L_on_2_3 5 [some (.int (x)), some (.ref 24576), some (.ref 24581), some (.int (nI (j2)))] [.int (nI (0)), .ref 24581, .int (nI (j2))] _ [] rfl trivial ?_
      refine AR.ald (n := 0) (e := 0) ok_L_on_5 (by first | rfl | (simp only [nI_add, pk_mul]; first | done | rfl)) rfl (by omega) (by first | decide | omega) ?_
      refine AR.top hc0 ?_
      refine AR.ge2N (tgt := 29) (a := j2) (b := nv) dc_L_on_6 (by decide) (by first | rfl | (simp only [nI_add, pk_mul]; first | done | rfl)) (by first | rfl | (simp only [nI_add, pk_mul]; first | done | rfl)) (by omega) (by omega) (fun c6_3 => absurd c6_3 (by omega)) (fun c6_3 => ?_)
      refine AR.run g_L_on_9_6 16 [some (.int (x)), some (.ref 24576), some (.ref 24581), some (.int (nI (j2)))] [.int (((nI (7)) * (nI (j2))) + (nI (5))), .ref 24576] _ [] rfl trivial ?_
      refine AR.ald (n := 0) (e := ((7 * j2) + 5)) ok_L_on_16 (by first | rfl | (simp only [nI_add, pk_mul]; first | done | rfl)) rfl (by omega) (by first | decide | omega) ?_
      refine AR.run g_L_on_17_1 18 [some (.int (x)), some (.ref 24576), some (.ref 24581), some (.int (nI (j2)))] [.int (x), .int (vo ((7 * j2) + 5))] _ [] rfl trivial ?_
      refine AR.ne2 (tgt := 23) dc_L_on_18 (by decide) (fun c18_4 => ?_) (fun c18_4 => ?_)
      · refine AR.run g_L_on_23_2 2 [some (.int (x)), some (.ref 24576), some (.ref 24581), some (.int ((nI (j2)) + (nI (1))))] [] _ [] rfl trivial ?_
        have e5 : W_Lon_2 x vo (f2 + 1) j2  = W_Lon_2 x vo f2 (j2 + 1)  := by rw [W_Lon_2, if_neg c18_4]
        rw [e5]
        exact AR.cast (L' := [some (.int (x)), some (.ref 24576), some (.ref 24581), some (.int (nI (j2 + 1)))]) (by first | rfl | rw [nI_add]) rfl rfl (ih2 (j2 + 1)  (by omega) )
      · refine AR.run g_L_on_21_1 22 [some (.int (x)), some (.ref 24576), some (.ref 24581), some (.int (nI (j2)))] [.int (nI (j2))] _ [] rfl trivial ?_
        have e6 : W_Lon_2 x vo (f2 + 1) j2  = (nI (j2)) := by rw [W_Lon_2, if_pos c18_4]
        rw [e6]
        exact AR.retI dc_L_on_22 rfl rfl rfl
  exact AR.end' rfl rfl (AR.cast rfl rfl rfl (hW nv 0  (by omega)))
theorem on_W {vo : Nat → Int32} {x : Int32} : ∀ f j : Nat, W_Lon_2 x vo f j = oI (fi (fun j => vo (7 * j + 5) = x) f j)
  | 0, j => rfl
  | f + 1, j => by
    unfold W_Lon_2 fi
    by_cases h : vo (7 * j + 5) = x
    · simp only [h, if_true]; rfl
    · simp only [h, if_false]; exact on_W f (j + 1)
theorem s_LonO {E : AE} (d : Nat) (x : Int32) {nv : Nat}  {o0 a0 t0 p0 u0 l0 : List AC} {vo ls ln lb cr ca lo st cc : Nat → Int32} (hc0 : cc 0 = nI nv) (h4 : nv ≤ 4) : CT E M_L_on d [.int (x), .ref 16384, .ref 16392] (hp o0 a0 t0 p0 (la_ vo ls ln lb cr ca lo st cc) u0 l0) (.inl (some (.int (oI (onL vo x nv) )))) (hp o0 a0 t0 p0 (la_ vo ls ln lb cr ca lo st cc) u0 l0) 0 0 := by
  rw [← show W_Lon_2 x vo nv 0 = oI (onL vo x nv) from on_W _ _]
  exact s_Lon d x hc0 h4
theorem s_LonCO {E : AE} (d : Nat) (x : Int32) {nv : Nat}  {o0 a0 t0 p0 u0 : List AC} {vo1 ls1 ln1 lb cr1 ca1 lo st cc1 vo ls ln cr ca cc : Nat → Int32} (hc0 : cc 0 = nI nv) (h4 : nv ≤ 4) : CT E M_L_on d [.int (x), .ref 24576, .ref 24581] (hp o0 a0 t0 p0 (la_ vo1 ls1 ln1 lb cr1 ca1 lo st cc1) u0 (xs_ (co_ vo ls ln cr ca cc))) (.inl (some (.int (oI (onL vo x nv) )))) (hp o0 a0 t0 p0 (la_ vo1 ls1 ln1 lb cr1 ca1 lo st cc1) u0 (xs_ (co_ vo ls ln cr ca cc))) 0 0 := by
  rw [← show W_Lon_2 x vo nv 0 = oI (onL vo x nv) from on_W _ _]
  exact s_LonC d x hc0 h4
def W_Lnext_36 (v : Nat) (ls : Nat → Int32) : Nat → Nat → (Int32)
  | 0, j36 => (-1)
  | f36 + 1, j36 => if (ls ((8 * v) + j36)) = 0 then (nI (j36)) else W_Lnext_36 v ls f36 (j36 + 1) 
def W_Lnext_2 (v : Nat) (vo : Nat → Int32) (ls : Nat → Int32) : Nat → Nat → (Int32)
  | 0, j2 => (W_Lnext_36 v ls (lL vo v) 0 )
  | f2 + 1, j2 => if (ls ((8 * v) + j2)) = (nI (2)) then (nI (j2)) else W_Lnext_2 v vo ls f2 (j2 + 1) 
theorem g_L_next_0_2 : ab_oks M_L_next [(0, .iconst 0, 1, 0, 0, 0, .int (nI (0))), (1, .istore_n 3, 1, 3, 0, 0, .null)] = true := by decide +kernel
theorem g_L_next_2_7 : ab_oks M_L_next [(2, .iload_n 3, 1, 3, 0, 0, .null), (3, .aload_n 1, 1, 1, 0, 0, .null), (4, .bipush 7, 2, 0, 0, 0, .int (nI (7))), (6, .iload_n 0, 1, 0, 0, 0, .null), (7, .imul, 1, 0, 0, 0, .null), (8, .iconst 2, 1, 0, 0, 0, .int (nI (2))), (9, .iadd, 1, 0, 0, 0, .null)] = true := by decide +kernel
theorem ok_L_next_10 : ab_ok M_L_next (10, .iaload, 1, 0, 0, 0, .null) = true := by decide +kernel
theorem dc_L_next_11 : decode (AM.bytes M_L_next) 11 = .ok (.if_icmp .ge 23, 3) := by decide +kernel
theorem g_L_next_34_2 : ab_oks M_L_next [(34, .iconst 0, 1, 0, 0, 0, .int (nI (0))), (35, .istore_n 3, 1, 3, 0, 0, .null)] = true := by decide +kernel
theorem g_L_next_36_7 : ab_oks M_L_next [(36, .iload_n 3, 1, 3, 0, 0, .null), (37, .aload_n 1, 1, 1, 0, 0, .null), (38, .bipush 7, 2, 0, 0, 0, .int (nI (7))), (40, .iload_n 0, 1, 0, 0, 0, .null), (41, .imul, 1, 0, 0, 0, .null), (42, .iconst 2, 1, 0, 0, 0, .int (nI (2))), (43, .iadd, 1, 0, 0, 0, .null)] = true := by decide +kernel
theorem ok_L_next_44 : ab_ok M_L_next (44, .iaload, 1, 0, 0, 0, .null) = true := by decide +kernel
theorem dc_L_next_45 : decode (AM.bytes M_L_next) 45 = .ok (.if_icmp .ge 22, 3) := by decide +kernel
theorem g_L_next_67_1 : ab_oks M_L_next [(67, .iconst (-1), 1, 0, 0, 0, .int (-1))] = true := by decide +kernel
theorem dc_L_next_68 : decode (AM.bytes M_L_next) 68 = .ok (.ireturn, 1) := by decide +kernel
theorem g_L_next_48_6 : ab_oks M_L_next [(48, .aload_n 2, 1, 2, 0, 0, .null), (49, .bipush 8, 2, 0, 0, 0, .int (nI (8))), (51, .iload_n 0, 1, 0, 0, 0, .null), (52, .imul, 1, 0, 0, 0, .null), (53, .iload_n 3, 1, 3, 0, 0, .null), (54, .iadd, 1, 0, 0, 0, .null)] = true := by decide +kernel
theorem ok_L_next_55 : ab_ok M_L_next (55, .iaload, 1, 0, 0, 0, .null) = true := by decide +kernel
theorem dc_L_next_56 : decode (AM.bytes M_L_next) 56 = .ok (.ifCond .ne 5, 3) := by decide +kernel
theorem g_L_next_61_2 : ab_oks M_L_next [(61, .iinc 3 1, 3, 3, 0, 0, .int (nI (1))), (64, .goto (-28), 3, 36, 0, 0, .null)] = true := by decide +kernel
theorem g_L_next_59_1 : ab_oks M_L_next [(59, .iload_n 3, 1, 3, 0, 0, .null)] = true := by decide +kernel
theorem dc_L_next_60 : decode (AM.bytes M_L_next) 60 = .ok (.ireturn, 1) := by decide +kernel
theorem g_L_next_14_6 : ab_oks M_L_next [(14, .aload_n 2, 1, 2, 0, 0, .null), (15, .bipush 8, 2, 0, 0, 0, .int (nI (8))), (17, .iload_n 0, 1, 0, 0, 0, .null), (18, .imul, 1, 0, 0, 0, .null), (19, .iload_n 3, 1, 3, 0, 0, .null), (20, .iadd, 1, 0, 0, 0, .null)] = true := by decide +kernel
theorem ok_L_next_21 : ab_ok M_L_next (21, .iaload, 1, 0, 0, 0, .null) = true := by decide +kernel
theorem g_L_next_22_1 : ab_oks M_L_next [(22, .iconst 2, 1, 0, 0, 0, .int (nI (2)))] = true := by decide +kernel
theorem dc_L_next_23 : decode (AM.bytes M_L_next) 23 = .ok (.if_icmp .ne 5, 3) := by decide +kernel
theorem g_L_next_28_2 : ab_oks M_L_next [(28, .iinc 3 1, 3, 3, 0, 0, .int (nI (1))), (31, .goto (-29), 3, 2, 0, 0, .null)] = true := by decide +kernel
theorem g_L_next_26_1 : ab_oks M_L_next [(26, .iload_n 3, 1, 3, 0, 0, .null)] = true := by decide +kernel
theorem dc_L_next_27 : decode (AM.bytes M_L_next) 27 = .ok (.ireturn, 1) := by decide +kernel
set_option maxRecDepth 100000 in
set_option maxHeartbeats 4000000 in
theorem s_Lnext {E : AE} (d : Nat) (v : Nat)  {o0 a0 t0 p0 u0 l0 : List AC} {vo ls ln lb cr ca lo st cc : Nat → Int32} (hv : v < 4) (hl : vo (7 * v + 2) = nI (lL vo v)) (hl8 : lL vo v ≤ 8) : CT E M_L_next d [.int (nI (v)), .ref 16384, .ref 16385] (hp o0 a0 t0 p0 (la_ vo ls ln lb cr ca lo st cc) u0 l0) (.inl (some (.int (W_Lnext_2 v vo ls (lL vo v) 0 )))) (hp o0 a0 t0 p0 (la_ vo ls ln lb cr ca lo st cc) u0 l0) 0 0 := by
  refine CT.of (L := [some (.int (nI (v))), some (.ref 16384), some (.ref 16385), none]) rfl rfl ?_
  refine AR.run g_L_next_0_2 2 [some (.int (nI (v))), some (.ref 16384), some (.ref 16385), some (.int (nI (0)))] [] _ [] rfl trivial ?_
  have hW : ∀ (f2 j2 : Nat), j2 + f2 = (lL vo v) → AR E M_L_next d 2 [some (.int (nI (v))), some (.ref 16384), some (.ref 16385), some (.int (nI (j2)))] [] (hp o0 a0 t0 p0 (la_ vo ls ln lb cr ca lo st cc) u0 l0) (.inl (some (.int (W_Lnext_2 v vo ls f2 j2 )))) (hp o0 a0 t0 p0 (la_ vo ls ln lb cr ca lo st cc) u0 l0) 0 0 := by
    intro f2
    induction f2 with
    | zero => 
      intro j2  hj2
      refine AR.run g_L_next_2_7 10 [some (.int (nI (v))), some (.ref 16384), some (.ref 16385), some (.int (nI (j2)))] [.int (((nI (7)) * (nI (v))) + (nI (2))), .ref 16384, .int (nI (j2))] _ [] rfl trivial ?_
      refine AR.ald (n := 0) (e := ((7 * v) + 2)) ok_L_next_10 (by first | rfl | (simp only [nI_add, pk_mul]; first | done | rfl)) rfl (by omega) (by first | decide | omega) ?_
      refine AR.top hl ?_
      refine AR.ge2N (tgt := 34) (a := j2) (b := (lL vo v)) dc_L_next_11 (by decide) (by first | rfl | (simp only [nI_add, pk_mul]; first | done | rfl)) (by first | rfl | (simp only [nI_add, pk_mul]; first | done | rfl)) (by omega) (by omega) (fun c11_1 => ?_) (fun c11_1 => absurd c11_1 (by omega))
      refine AR.run g_L_next_34_2 36 [some (.int (nI (v))), some (.ref 16384), some (.ref 16385), some (.int (nI (0)))] [] _ [] rfl trivial ?_
      have hW : ∀ (f36 j36 : Nat), j36 + f36 = (lL vo v) → AR E M_L_next d 36 [some (.int (nI (v))), some (.ref 16384), some (.ref 16385), some (.int (nI (j36)))] [] (hp o0 a0 t0 p0 (la_ vo ls ln lb cr ca lo st cc) u0 l0) (.inl (some (.int (W_Lnext_36 v ls f36 j36 )))) (hp o0 a0 t0 p0 (la_ vo ls ln lb cr ca lo st cc) u0 l0) 0 0 := by
        intro f36
        induction f36 with
        | zero => 
          intro j36  hj36
          refine AR.run g_L_next_36_7 44 [some (.int (nI (v))), some (.ref 16384), some (.ref 16385), some (.int (nI (j36)))] [.int (((nI (7)) * (nI (v))) + (nI (2))), .ref 16384, .int (nI (j36))] _ [] rfl trivial ?_
          refine AR.ald (n := 0) (e := ((7 * v) + 2)) ok_L_next_44 (by first | rfl | (simp only [nI_add, pk_mul]; first | done | rfl)) rfl (by omega) (by first | decide | omega) ?_
          refine AR.top hl ?_
          refine AR.ge2N (tgt := 67) (a := j36) (b := (lL vo v)) dc_L_next_45 (by decide) (by first | rfl | (simp only [nI_add, pk_mul]; first | done | rfl)) (by first | rfl | (simp only [nI_add, pk_mul]; first | done | rfl)) (by omega) (by omega) (fun c45_2 => ?_) (fun c45_2 => absurd c45_2 (by omega))
          refine AR.run g_L_next_67_1 68 [some (.int (nI (v))), some (.ref 16384), some (.ref 16385), some (.int (nI (j36)))] [.int (-1)] _ [] rfl trivial ?_
          have e3 : W_Lnext_36 v ls 0 j36  = (-1) := by rw [W_Lnext_36]
          rw [e3]
          exact AR.retI dc_L_next_68 rfl rfl rfl
        | succ f36 ih36 => 
          intro j36  hj36
          refine AR.run g_L_next_36_7 44 [some (.int (nI (v))), some (.ref 16384), some (.ref 16385), some (.int (nI (j36)))] [.int (((nI (7)) * (nI (v))) + (nI (2))), .ref 16384, .int (nI (j36))] _ [] rfl trivial ?_
          refine AR.ald (n := 0) (e := ((7 * v) + 2)) ok_L_next_44 (by first | rfl | (simp only [nI_add, pk_mul]; first | done | rfl)) rfl (by omega) (by first | decide | omega) ?_
          refine AR.top hl ?_
          refine AR.ge2N (tgt := 67) (a := j36) (b := (lL vo v)) dc_L_next_45 (by decide) (by first | rfl | (simp only [nI_add, pk_mul]; first | done | rfl)) (by first | rfl | (simp only [nI_add, pk_mul]; first | done | rfl)) (by omega) (by omega) (fun c45_4 => absurd c45_4 (by omega)) (fun c45_4 => ?_)
          refine AR.run g_L_next_48_6 55 [some (.int (nI (v))), some (.ref 16384), some (.ref 16385), some (.int (nI (j36)))] [.int (((nI (8)) * (nI (v))) + (nI (j36))), .ref 16385] _ [] rfl trivial ?_
          refine AR.ald (n := 0) (e := ((8 * v) + j36)) ok_L_next_55 (by first | rfl | (simp only [nI_add, pk_mul]; first | done | rfl)) rfl (by omega) (by first | decide | omega) ?_
          refine AR.ne (tgt := 61) dc_L_next_56 (by decide) (fun c56_5 => ?_) (fun c56_5 => ?_)
          · refine AR.run g_L_next_61_2 36 [some (.int (nI (v))), some (.ref 16384), some (.ref 16385), some (.int ((nI (j36)) + (nI (1))))] [] _ [] rfl trivial ?_
            have e6 : W_Lnext_36 v ls (f36 + 1) j36  = W_Lnext_36 v ls f36 (j36 + 1)  := by rw [W_Lnext_36, if_neg c56_5]
            rw [e6]
            exact AR.cast (L' := [some (.int (nI (v))), some (.ref 16384), some (.ref 16385), some (.int (nI (j36 + 1)))]) (by first | rfl | rw [nI_add]) rfl rfl (ih36 (j36 + 1)  (by omega) )
          · refine AR.run g_L_next_59_1 60 [some (.int (nI (v))), some (.ref 16384), some (.ref 16385), some (.int (nI (j36)))] [.int (nI (j36))] _ [] rfl trivial ?_
            have e7 : W_Lnext_36 v ls (f36 + 1) j36  = (nI (j36)) := by rw [W_Lnext_36, if_pos c56_5]
            rw [e7]
            exact AR.retI dc_L_next_60 rfl rfl rfl
      exact AR.end' rfl rfl (AR.cast rfl rfl rfl (hW (lL vo v) 0  (by omega)))
    | succ f2 ih2 => 
      intro j2  hj2
      refine AR.run g_L_next_2_7 10 [some (.int (nI (v))), some (.ref 16384), some (.ref 16385), some (.int (nI (j2)))] [.int (((nI (7)) * (nI (v))) + (nI (2))), .ref 16384, .int (nI (j2))] _ [] rfl trivial ?_
      refine AR.ald (n := 0) (e := ((7 * v) + 2)) ok_L_next_10 (by first | rfl | (simp only [nI_add, pk_mul]; first | done | rfl)) rfl (by omega) (by first | decide | omega) ?_
      refine AR.top hl ?_
      refine AR.ge2N (tgt := 34) (a := j2) (b := (lL vo v)) dc_L_next_11 (by decide) (by first | rfl | (simp only [nI_add, pk_mul]; first | done | rfl)) (by first | rfl | (simp only [nI_add, pk_mul]; first | done | rfl)) (by omega) (by omega) (fun c11_10 => absurd c11_10 (by omega)) (fun c11_10 => ?_)
      refine AR.run g_L_next_14_6 21 [some (.int (nI (v))), some (.ref 16384), some (.ref 16385), some (.int (nI (j2)))] [.int (((nI (8)) * (nI (v))) + (nI (j2))), .ref 16385] _ [] rfl trivial ?_
      refine AR.ald (n := 0) (e := ((8 * v) + j2)) ok_L_next_21 (by first | rfl | (simp only [nI_add, pk_mul]; first | done | rfl)) rfl (by omega) (by first | decide | omega) ?_
      refine AR.run g_L_next_22_1 23 [some (.int (nI (v))), some (.ref 16384), some (.ref 16385), some (.int (nI (j2)))] [.int (nI (2)), .int (ls ((8 * v) + j2))] _ [] rfl trivial ?_
      refine AR.ne2 (tgt := 28) dc_L_next_23 (by decide) (fun c23_11 => ?_) (fun c23_11 => ?_)
      · refine AR.run g_L_next_28_2 2 [some (.int (nI (v))), some (.ref 16384), some (.ref 16385), some (.int ((nI (j2)) + (nI (1))))] [] _ [] rfl trivial ?_
        have e12 : W_Lnext_2 v vo ls (f2 + 1) j2  = W_Lnext_2 v vo ls f2 (j2 + 1)  := by rw [W_Lnext_2, if_neg c23_11]
        rw [e12]
        exact AR.cast (L' := [some (.int (nI (v))), some (.ref 16384), some (.ref 16385), some (.int (nI (j2 + 1)))]) (by first | rfl | rw [nI_add]) rfl rfl (ih2 (j2 + 1)  (by omega) )
      · refine AR.run g_L_next_26_1 27 [some (.int (nI (v))), some (.ref 16384), some (.ref 16385), some (.int (nI (j2)))] [.int (nI (j2))] _ [] rfl trivial ?_
        have e13 : W_Lnext_2 v vo ls (f2 + 1) j2  = (nI (j2)) := by rw [W_Lnext_2, if_pos c23_11]
        rw [e13]
        exact AR.retI dc_L_next_27 rfl rfl rfl
  exact AR.end' rfl rfl (AR.cast rfl rfl rfl (hW (lL vo v) 0  (by omega)))
set_option maxRecDepth 100000 in
set_option maxHeartbeats 4000000 in
theorem s_LnextC {E : AE} (d : Nat) (v : Nat)  {o0 a0 t0 p0 u0 : List AC} {vo1 ls1 ln1 lb cr1 ca1 lo st cc1 vo ls ln cr ca cc : Nat → Int32} (hv : v < 4) (hl : vo (7 * v + 2) = nI (lL vo v)) (hl8 : lL vo v ≤ 8) : CT E M_L_next d [.int (nI (v)), .ref 24576, .ref 24577] (hp o0 a0 t0 p0 (la_ vo1 ls1 ln1 lb cr1 ca1 lo st cc1) u0 (xs_ (co_ vo ls ln cr ca cc))) (.inl (some (.int (W_Lnext_2 v vo ls (lL vo v) 0 )))) (hp o0 a0 t0 p0 (la_ vo1 ls1 ln1 lb cr1 ca1 lo st cc1) u0 (xs_ (co_ vo ls ln cr ca cc))) 0 0 := by
  refine CT.of (L := [some (.int (nI (v))), some (.ref 24576), some (.ref 24577), none]) rfl rfl ?_
  refine AR.run g_L_next_0_2 2 [some (.int (nI (v))), some (.ref 24576), some (.ref 24577), some (.int (nI (0)))] [] _ [] rfl trivial ?_
  have hW : ∀ (f2 j2 : Nat), j2 + f2 = (lL vo v) → AR E M_L_next d 2 [some (.int (nI (v))), some (.ref 24576), some (.ref 24577), some (.int (nI (j2)))] [] (hp o0 a0 t0 p0 (la_ vo1 ls1 ln1 lb cr1 ca1 lo st cc1) u0 (xs_ (co_ vo ls ln cr ca cc))) (.inl (some (.int (W_Lnext_2 v vo ls f2 j2 )))) (hp o0 a0 t0 p0 (la_ vo1 ls1 ln1 lb cr1 ca1 lo st cc1) u0 (xs_ (co_ vo ls ln cr ca cc))) 0 0 := by
    intro f2
    induction f2 with
    | zero => 
      intro j2  hj2
      refine AR.run g_L_next_2_7 10 [some (.int (nI (v))), some (.ref 24576), some (.ref 24577), some (.int (nI (j2)))] [.int (((nI (7)) * (nI (v))) + (nI (2))), .ref 24576, .int (nI (j2))] _ [] rfl trivial ?_
      refine AR.ald (n := 0) (e := ((7 * v) + 2)) ok_L_next_10 (by first | rfl | (simp only [nI_add, pk_mul]; first | done | rfl)) rfl (by omega) (by first | decide | omega) ?_
      refine AR.top hl ?_
      refine AR.ge2N (tgt := 34) (a := j2) (b := (lL vo v)) dc_L_next_11 (by decide) (by first | rfl | (simp only [nI_add, pk_mul]; first | done | rfl)) (by first | rfl | (simp only [nI_add, pk_mul]; first | done | rfl)) (by omega) (by omega) (fun c11_1 => ?_) (fun c11_1 => absurd c11_1 (by omega))
      refine AR.run g_L_next_34_2 36 [some (.int (nI (v))), some (.ref 24576), some (.ref 24577), some (.int (nI (0)))] [] _ [] rfl trivial ?_
      have hW : ∀ (f36 j36 : Nat), j36 + f36 = (lL vo v) → AR E M_L_next d 36 [some (.int (nI (v))), some (.ref 24576), some (.ref 24577), some (.int (nI (j36)))] [] (hp o0 a0 t0 p0 (la_ vo1 ls1 ln1 lb cr1 ca1 lo st cc1) u0 (xs_ (co_ vo ls ln cr ca cc))) (.inl (some (.int (W_Lnext_36 v ls f36 j36 )))) (hp o0 a0 t0 p0 (la_ vo1 ls1 ln1 lb cr1 ca1 lo st cc1) u0 (xs_ (co_ vo ls ln cr ca cc))) 0 0 := by
        intro f36
        induction f36 with
        | zero => 
          intro j36  hj36
          refine AR.run g_L_next_36_7 44 [some (.int (nI (v))), some (.ref 24576), some (.ref 24577), some (.int (nI (j36)))] [.int (((nI (7)) * (nI (v))) + (nI (2))), .ref 24576, .int (nI (j36))] _ [] rfl trivial ?_
          refine AR.ald (n := 0) (e := ((7 * v) + 2)) ok_L_next_44 (by first | rfl | (simp only [nI_add, pk_mul]; first | done | rfl)) rfl (by omega) (by first | decide | omega) ?_
          refine AR.top hl ?_
          refine AR.ge2N (tgt := 67) (a := j36) (b := (lL vo v)) dc_L_next_45 (by decide) (by first | rfl | (simp only [nI_add, pk_mul]; first | done | rfl)) (by first | rfl | (simp only [nI_add, pk_mul]; first | done | rfl)) (by omega) (by omega) (fun c45_2 => ?_) (fun c45_2 => absurd c45_2 (by omega))
          refine AR.run g_L_next_67_1 68 [some (.int (nI (v))), some (.ref 24576), some (.ref 24577), some (.int (nI (j36)))] [.int (-1)] _ [] rfl trivial ?_
          have e3 : W_Lnext_36 v ls 0 j36  = (-1) := by rw [W_Lnext_36]
          rw [e3]
          exact AR.retI dc_L_next_68 rfl rfl rfl
        | succ f36 ih36 => 
          intro j36  hj36
          refine AR.run g_L_next_36_7 44 [some (.int (nI (v))), some (.ref 24576), some (.ref 24577), some (.int (nI (j36)))] [.int (((nI (7)) * (nI (v))) + (nI (2))), .ref 24576, .int (nI (j36))] _ [] rfl trivial ?_
          refine AR.ald (n := 0) (e := ((7 * v) + 2)) ok_L_next_44 (by first | rfl | (simp only [nI_add, pk_mul]; first | done | rfl)) rfl (by omega) (by first | decide | omega) ?_
          refine AR.top hl ?_
          refine AR.ge2N (tgt := 67) (a := j36) (b := (lL vo v)) dc_L_next_45 (by decide) (by first | rfl | (simp only [nI_add, pk_mul]; first | done | rfl)) (by first | rfl | (simp only [nI_add, pk_mul]; first | done | rfl)) (by omega) (by omega) (fun c45_4 => absurd c45_4 (by omega)) (fun c45_4 => ?_)
          refine AR.run g_L_next_48_6 55 [some (.int (nI (v))), some (.ref 24576), some (.ref 24577), some (.int (nI (j36)))] [.int (((nI (8)) * (nI (v))) + (nI (j36))), .ref 24577] _ [] rfl trivial ?_
          refine AR.ald (n := 0) (e := ((8 * v) + j36)) ok_L_next_55 (by first | rfl | (simp only [nI_add, pk_mul]; first | done | rfl)) rfl (by omega) (by first | decide | omega) ?_
          refine AR.ne (tgt := 61) dc_L_next_56 (by decide) (fun c56_5 => ?_) (fun c56_5 => ?_)
          · refine AR.run g_L_next_61_2 36 [some (.int (nI (v))), some (.ref 24576), some (.ref 24577), some (.int ((nI (j36)) + (nI (1))))] [] _ [] rfl trivial ?_
            have e6 : W_Lnext_36 v ls (f36 + 1) j36  = W_Lnext_36 v ls f36 (j36 + 1)  := by rw [W_Lnext_36, if_neg c56_5]
            rw [e6]
            exact AR.cast (L' := [some (.int (nI (v))), some (.ref 24576), some (.ref 24577), some (.int (nI (j36 + 1)))]) (by first | rfl | rw [nI_add]) rfl rfl (ih36 (j36 + 1)  (by omega) )
          · refine AR.run g_L_next_59_1 60 [some (.int (nI (v))), some (.ref 24576), some (.ref 24577), some (.int (nI (j36)))] [.int (nI (j36))] _ [] rfl trivial ?_
            have e7 : W_Lnext_36 v ls (f36 + 1) j36  = (nI (j36)) := by rw [W_Lnext_36, if_pos c56_5]
            rw [e7]
            exact AR.retI dc_L_next_60 rfl rfl rfl
      exact AR.end' rfl rfl (AR.cast rfl rfl rfl (hW (lL vo v) 0  (by omega)))
    | succ f2 ih2 => 
      intro j2  hj2
      refine AR.run g_L_next_2_7 10 [some (.int (nI (v))), some (.ref 24576), some (.ref 24577), some (.int (nI (j2)))] [.int (((nI (7)) * (nI (v))) + (nI (2))), .ref 24576, .int (nI (j2))] _ [] rfl trivial ?_
      refine AR.ald (n := 0) (e := ((7 * v) + 2)) ok_L_next_10 (by first | rfl | (simp only [nI_add, pk_mul]; first | done | rfl)) rfl (by omega) (by first | decide | omega) ?_
      refine AR.top hl ?_
      refine AR.ge2N (tgt := 34) (a := j2) (b := (lL vo v)) dc_L_next_11 (by decide) (by first | rfl | (simp only [nI_add, pk_mul]; first | done | rfl)) (by first | rfl | (simp only [nI_add, pk_mul]; first | done | rfl)) (by omega) (by omega) (fun c11_10 => absurd c11_10 (by omega)) (fun c11_10 => ?_)
      refine AR.run g_L_next_14_6 21 [some (.int (nI (v))), some (.ref 24576), some (.ref 24577), some (.int (nI (j2)))] [.int (((nI (8)) * (nI (v))) + (nI (j2))), .ref 24577] _ [] rfl trivial ?_
      refine AR.ald (n := 0) (e := ((8 * v) + j2)) ok_L_next_21 (by first | rfl | (simp only [nI_add, pk_mul]; first | done | rfl)) rfl (by omega) (by first | decide | omega) ?_
      refine AR.run g_L_next_22_1 23 [some (.int (nI (v))), some (.ref 24576), some (.ref 24577), some (.int (nI (j2)))] [.int (nI (2)), .int (ls ((8 * v) + j2))] _ [] rfl trivial ?_
      refine AR.ne2 (tgt := 28) dc_L_next_23 (by decide) (fun c23_11 => ?_) (fun c23_11 => ?_)
      · refine AR.run g_L_next_28_2 2 [some (.int (nI (v))), some (.ref 24576), some (.ref 24577), some (.int ((nI (j2)) + (nI (1))))] [] _ [] rfl trivial ?_
        have e12 : W_Lnext_2 v vo ls (f2 + 1) j2  = W_Lnext_2 v vo ls f2 (j2 + 1)  := by rw [W_Lnext_2, if_neg c23_11]
        rw [e12]
        exact AR.cast (L' := [some (.int (nI (v))), some (.ref 24576), some (.ref 24577), some (.int (nI (j2 + 1)))]) (by first | rfl | rw [nI_add]) rfl rfl (ih2 (j2 + 1)  (by omega) )
      · refine AR.run g_L_next_26_1 27 [some (.int (nI (v))), some (.ref 24576), some (.ref 24577), some (.int (nI (j2)))] [.int (nI (j2))] _ [] rfl trivial ?_
        have e13 : W_Lnext_2 v vo ls (f2 + 1) j2  = (nI (j2)) := by rw [W_Lnext_2, if_pos c23_11]
        rw [e13]
        exact AR.retI dc_L_next_27 rfl rfl rfl
  exact AR.end' rfl rfl (AR.cast rfl rfl rfl (hW (lL vo v) 0  (by omega)))
theorem next_W2 {v : Nat} {ls : Nat → Int32} : ∀ f j : Nat, W_Lnext_36 v ls f j = oI (fi (fun j => (fun k => ls (8 * v + k)) j = nI 0) f j)
  | 0, j => rfl
  | f + 1, j => by
    unfold W_Lnext_36 fi
    by_cases h : ls (8 * v + j) = 0
    · rw [if_pos h, if_pos (show (fun k => ls (8 * v + k)) j = nI 0 from h)]; rfl
    · rw [if_neg h, if_neg (show ¬ (fun k => ls (8 * v + k)) j = nI 0 from h)]; exact next_W2 f (j + 1)
theorem next_W1 {v : Nat} {vo ls : Nat → Int32} : ∀ f j : Nat, W_Lnext_2 v vo ls f j = match fi (fun j => (fun k => ls (8 * v + k)) j = nI 2) f j with
    | some q => oI (some q)
    | none => W_Lnext_36 v ls (lL vo v) 0
  | 0, j => rfl
  | f + 1, j => by
    unfold W_Lnext_2 fi
    by_cases h : ls (8 * v + j) = nI 2
    · rw [if_pos h, if_pos (show (fun k => ls (8 * v + k)) j = nI 2 from h)]; rfl
    · rw [if_neg h, if_neg (show ¬ (fun k => ls (8 * v + k)) j = nI 2 from h)]; exact next_W1 f (j + 1)
theorem next_W {v : Nat} {vo ls : Nat → Int32} : W_Lnext_2 v vo ls (lL vo v) 0 = oI (nxL vo ls v) := by
  rw [next_W1, next_W2]
  unfold nxL nlB
  cases fi (fun j => (fun k => ls (8 * v + k)) j = nI 2) (lL vo v) 0 <;> rfl
theorem s_LnextO {E : AE} (d : Nat) (v : Nat)  {o0 a0 t0 p0 u0 l0 : List AC} {vo ls ln lb cr ca lo st cc : Nat → Int32} (hv : v < 4) (hl : vo (7 * v + 2) = nI (lL vo v)) (hl8 : lL vo v ≤ 8) : CT E M_L_next d [.int (nI (v)), .ref 16384, .ref 16385] (hp o0 a0 t0 p0 (la_ vo ls ln lb cr ca lo st cc) u0 l0) (.inl (some (.int (oI (nxL vo ls v) )))) (hp o0 a0 t0 p0 (la_ vo ls ln lb cr ca lo st cc) u0 l0) 0 0 := by
  rw [← show W_Lnext_2 v vo ls (lL vo v) 0 = oI (nxL vo ls v) from next_W]
  exact s_Lnext d v hv hl hl8
theorem s_LnextCO {E : AE} (d : Nat) (v : Nat)  {o0 a0 t0 p0 u0 : List AC} {vo1 ls1 ln1 lb cr1 ca1 lo st cc1 vo ls ln cr ca cc : Nat → Int32} (hv : v < 4) (hl : vo (7 * v + 2) = nI (lL vo v)) (hl8 : lL vo v ≤ 8) : CT E M_L_next d [.int (nI (v)), .ref 24576, .ref 24577] (hp o0 a0 t0 p0 (la_ vo1 ls1 ln1 lb cr1 ca1 lo st cc1) u0 (xs_ (co_ vo ls ln cr ca cc))) (.inl (some (.int (oI (nxL vo ls v) )))) (hp o0 a0 t0 p0 (la_ vo1 ls1 ln1 lb cr1 ca1 lo st cc1) u0 (xs_ (co_ vo ls ln cr ca cc))) 0 0 := by
  rw [← show W_Lnext_2 v vo ls (lL vo v) 0 = oI (nxL vo ls v) from next_W]
  exact s_LnextC d v hv hl hl8
def F_Lidle (k : Nat) (nv : Nat) (vo : Nat → Int32) (ls : Nat → Int32) (cr : Nat → Int32) : Int32 := if 0 ≤ (oI (onL vo (nI (k)) nv)) then if (vo ((7 * (onG vo (nI (k)) nv)) + 6)) ≤ 0 then if (vo ((7 * (onG vo (nI (k)) nv)) + 3)) ≤ (cr ((4 * k) + 1)) then if 0 ≤ (oI (nxL vo ls (onG vo (nI (k)) nv))) then (nI (0)) else (nI (4)) else (nI (3)) else (nI (2)) else (nI (1))
theorem g_L_idle_0_3 : ab_oks M_L_idle [(0, .iload_n 0, 1, 0, 0, 0, .null), (1, .aload_n 1, 1, 1, 0, 0, .null), (2, .aload 4, 2, 4, 0, 0, .null)] = true := by decide +kernel
theorem lk_L_8 : ab_lkS "LeafCradlesLaw" 8 M_L_on 3 [373, 374, 28, 375] = true := by decide +kernel
theorem dc_L_idle_4 : decode (AM.bytes M_L_idle) 4 = .ok (.invokestatic 8, 3) := by decide +kernel
theorem g_L_idle_7_2 : ab_oks M_L_idle [(7, .istore 5, 2, 5, 0, 0, .null), (9, .iload 5, 2, 5, 0, 0, .null)] = true := by decide +kernel
theorem dc_L_idle_11 : decode (AM.bytes M_L_idle) 11 = .ok (.ifCond .ge 7, 3) := by decide +kernel
theorem g_L_idle_18_6 : ab_oks M_L_idle [(18, .aload_n 1, 1, 1, 0, 0, .null), (19, .bipush 7, 2, 0, 0, 0, .int (nI (7))), (21, .iload 5, 2, 5, 0, 0, .null), (23, .imul, 1, 0, 0, 0, .null), (24, .bipush 6, 2, 0, 0, 0, .int (nI (6))), (26, .iadd, 1, 0, 0, 0, .null)] = true := by decide +kernel
theorem ok_L_idle_27 : ab_ok M_L_idle (27, .iaload, 1, 0, 0, 0, .null) = true := by decide +kernel
theorem dc_L_idle_28 : decode (AM.bytes M_L_idle) 28 = .ok (.ifCond .le 7, 3) := by decide +kernel
theorem g_L_idle_35_6 : ab_oks M_L_idle [(35, .aload_n 1, 1, 1, 0, 0, .null), (36, .bipush 7, 2, 0, 0, 0, .int (nI (7))), (38, .iload 5, 2, 5, 0, 0, .null), (40, .imul, 1, 0, 0, 0, .null), (41, .iconst 3, 1, 0, 0, 0, .int (nI (3))), (42, .iadd, 1, 0, 0, 0, .null)] = true := by decide +kernel
theorem ok_L_idle_43 : ab_ok M_L_idle (43, .iaload, 1, 0, 0, 0, .null) = true := by decide +kernel
theorem g_L_idle_44_6 : ab_oks M_L_idle [(44, .aload_n 3, 1, 3, 0, 0, .null), (45, .iconst 4, 1, 0, 0, 0, .int (nI (4))), (46, .iload_n 0, 1, 0, 0, 0, .null), (47, .imul, 1, 0, 0, 0, .null), (48, .iconst 1, 1, 0, 0, 0, .int (nI (1))), (49, .iadd, 1, 0, 0, 0, .null)] = true := by decide +kernel
theorem ok_L_idle_50 : ab_ok M_L_idle (50, .iaload, 1, 0, 0, 0, .null) = true := by decide +kernel
theorem dc_L_idle_51 : decode (AM.bytes M_L_idle) 51 = .ok (.if_icmp .le 7, 3) := by decide +kernel
theorem g_L_idle_58_3 : ab_oks M_L_idle [(58, .iload 5, 2, 5, 0, 0, .null), (60, .aload_n 1, 1, 1, 0, 0, .null), (61, .aload_n 2, 1, 2, 0, 0, .null)] = true := by decide +kernel
theorem lk_L_14 : ab_lkS "LeafCradlesLaw" 14 M_L_next 3 [354, 355, 28, 356] = true := by decide +kernel
theorem dc_L_idle_62 : decode (AM.bytes M_L_idle) 62 = .ok (.invokestatic 14, 3) := by decide +kernel
theorem dc_L_idle_65 : decode (AM.bytes M_L_idle) 65 = .ok (.ifCond .ge 7, 3) := by decide +kernel
theorem g_L_idle_72_1 : ab_oks M_L_idle [(72, .iconst 0, 1, 0, 0, 0, .int (nI (0)))] = true := by decide +kernel
theorem dc_L_idle_73 : decode (AM.bytes M_L_idle) 73 = .ok (.ireturn, 1) := by decide +kernel
theorem g_L_idle_68_2 : ab_oks M_L_idle [(68, .iconst 4, 1, 0, 0, 0, .int (nI (4))), (69, .goto 4, 3, 73, 0, 0, .null)] = true := by decide +kernel
theorem g_L_idle_54_2 : ab_oks M_L_idle [(54, .iconst 3, 1, 0, 0, 0, .int (nI (3))), (55, .goto 18, 3, 73, 0, 0, .null)] = true := by decide +kernel
theorem g_L_idle_31_2 : ab_oks M_L_idle [(31, .iconst 2, 1, 0, 0, 0, .int (nI (2))), (32, .goto 41, 3, 73, 0, 0, .null)] = true := by decide +kernel
theorem g_L_idle_14_2 : ab_oks M_L_idle [(14, .iconst 1, 1, 0, 0, 0, .int (nI (1))), (15, .goto 58, 3, 73, 0, 0, .null)] = true := by decide +kernel
set_option maxRecDepth 100000 in
set_option maxHeartbeats 4000000 in
theorem s_Lidle {E : AE} (d : Nat) (k : Nat) {nv : Nat}  {o0 a0 t0 p0 u0 l0 : List AC} {vo ls ln lb cr ca lo st cc : Nat → Int32} (hk : k < 2) (hc0 : cc 0 = nI nv) (h4 : nv ≤ 4) (hL : ∀ v, v < nv → vo (7 * v + 2) = nI (lL vo v) ∧ lL vo v ≤ 8) : CT E M_L_idle (d + 1) [.int (nI (k)), .ref 16384, .ref 16385, .ref 16388, .ref 16392] (hp o0 a0 t0 p0 (la_ vo ls ln lb cr ca lo st cc) u0 l0) (.inl (some (.int (F_Lidle k nv vo ls cr)))) (hp o0 a0 t0 p0 (la_ vo ls ln lb cr ca lo st cc) u0 l0) 0 0 := by
  refine CT.of (L := [some (.int (nI (k))), some (.ref 16384), some (.ref 16385), some (.ref 16388), some (.ref 16392), none]) rfl rfl ?_
  refine AR.run g_L_idle_0_3 4 [some (.int (nI (k))), some (.ref 16384), some (.ref 16385), some (.ref 16388), some (.ref 16392), none] [.ref 16392, .ref 16384, .int (nI (k))] _ [] rfl trivial ?_
  refine AR.callS1 [.int (nI (k)), .ref 16384, .ref 16392] [] lk_L_8 dc_L_idle_4 (s_LonO _ (nI (k)) (by assumption) (by omega)) (by first | rfl | (simp only [nI_add, pk_mul]; first | done | rfl)) rfl ?_
  refine AR.run g_L_idle_7_2 11 [some (.int (nI (k))), some (.ref 16384), some (.ref 16385), some (.ref 16388), some (.ref 16392), some (.int (oI (onL vo (nI (k)) nv)))] [.int (oI (onL vo (nI (k)) nv))] _ [] rfl trivial ?_
  refine AR.ge (tgt := 18) dc_L_idle_11 (by decide) (fun c11_1 => ?_) (fun c11_1 => ?_)
  · obtain ⟨hx2, hy2⟩ := onL_get (by assumption)
    refine AR.cast (L' := [some (.int (nI (k))), some (.ref 16384), some (.ref 16385), some (.ref 16388), some (.ref 16392), some (.int (nI ((onG vo (nI (k)) nv))))]) (st' := []) (by rw [hx2]; rfl) rfl rfl ?_
    refine AR.run g_L_idle_18_6 27 [some (.int (nI (k))), some (.ref 16384), some (.ref 16385), some (.ref 16388), some (.ref 16392), some (.int (nI ((onG vo (nI (k)) nv))))] [.int (((nI (7)) * (nI ((onG vo (nI (k)) nv)))) + (nI (6))), .ref 16384] _ [] rfl trivial ?_
    refine AR.ald (n := 0) (e := ((7 * (onG vo (nI (k)) nv)) + 6)) ok_L_idle_27 (by first | rfl | (simp only [nI_add, pk_mul]; first | done | rfl)) rfl (by omega) (by first | decide | omega) ?_
    refine AR.le (tgt := 35) dc_L_idle_28 (by decide) (fun c28_3 => ?_) (fun c28_3 => ?_)
    · refine AR.run g_L_idle_35_6 43 [some (.int (nI (k))), some (.ref 16384), some (.ref 16385), some (.ref 16388), some (.ref 16392), some (.int (nI ((onG vo (nI (k)) nv))))] [.int (((nI (7)) * (nI ((onG vo (nI (k)) nv)))) + (nI (3))), .ref 16384] _ [] rfl trivial ?_
      refine AR.ald (n := 0) (e := ((7 * (onG vo (nI (k)) nv)) + 3)) ok_L_idle_43 (by first | rfl | (simp only [nI_add, pk_mul]; first | done | rfl)) rfl (by omega) (by first | decide | omega) ?_
      refine AR.run g_L_idle_44_6 50 [some (.int (nI (k))), some (.ref 16384), some (.ref 16385), some (.ref 16388), some (.ref 16392), some (.int (nI ((onG vo (nI (k)) nv))))] [.int (((nI (4)) * (nI (k))) + (nI (1))), .ref 16388, .int (vo ((7 * (onG vo (nI (k)) nv)) + 3))] _ [] rfl trivial ?_
      refine AR.ald (n := 0) (e := ((4 * k) + 1)) ok_L_idle_50 (by first | rfl | (simp only [nI_add, pk_mul]; first | done | rfl)) rfl (by omega) (by first | decide | omega) ?_
      refine AR.le2 (tgt := 58) dc_L_idle_51 (by decide) (fun c51_4 => ?_) (fun c51_4 => ?_)
      · refine AR.run g_L_idle_58_3 62 [some (.int (nI (k))), some (.ref 16384), some (.ref 16385), some (.ref 16388), some (.ref 16392), some (.int (nI ((onG vo (nI (k)) nv))))] [.ref 16385, .ref 16384, .int (nI ((onG vo (nI (k)) nv)))] _ [] rfl trivial ?_
        refine AR.callS1 [.int (nI ((onG vo (nI (k)) nv))), .ref 16384, .ref 16385] [] lk_L_14 dc_L_idle_62 (s_LnextO _ (onG vo (nI (k)) nv) (by omega) (by first | assumption | exact (hL (onG vo (nI (k)) nv) (by omega)).1) (by first | assumption | exact (hL (onG vo (nI (k)) nv) (by omega)).2)) (by first | rfl | (simp only [nI_add, pk_mul]; first | done | rfl)) rfl ?_
        refine AR.ge (tgt := 72) dc_L_idle_65 (by decide) (fun c65_5 => ?_) (fun c65_5 => ?_)
        · refine AR.run g_L_idle_72_1 73 [some (.int (nI (k))), some (.ref 16384), some (.ref 16385), some (.ref 16388), some (.ref 16392), some (.int (nI ((onG vo (nI (k)) nv))))] [.int (nI (0))] _ [] rfl trivial ?_
          have e6_0 : F_Lidle k nv vo ls cr = (nI (0)) := by rw [F_Lidle, if_pos c11_1, if_pos c28_3, if_pos c51_4, if_pos c65_5]
          exact AR.retI dc_L_idle_73 rfl e6_0.symm rfl
        · refine AR.run g_L_idle_68_2 73 [some (.int (nI (k))), some (.ref 16384), some (.ref 16385), some (.ref 16388), some (.ref 16392), some (.int (nI ((onG vo (nI (k)) nv))))] [.int (nI (4))] _ [] rfl trivial ?_
          have e7_0 : F_Lidle k nv vo ls cr = (nI (4)) := by rw [F_Lidle, if_pos c11_1, if_pos c28_3, if_pos c51_4, if_neg c65_5]
          exact AR.retI dc_L_idle_73 rfl e7_0.symm rfl
      · refine AR.run g_L_idle_54_2 73 [some (.int (nI (k))), some (.ref 16384), some (.ref 16385), some (.ref 16388), some (.ref 16392), some (.int (nI ((onG vo (nI (k)) nv))))] [.int (nI (3))] _ [] rfl trivial ?_
        have e8_0 : F_Lidle k nv vo ls cr = (nI (3)) := by rw [F_Lidle, if_pos c11_1, if_pos c28_3, if_neg c51_4]
        exact AR.retI dc_L_idle_73 rfl e8_0.symm rfl
    · refine AR.run g_L_idle_31_2 73 [some (.int (nI (k))), some (.ref 16384), some (.ref 16385), some (.ref 16388), some (.ref 16392), some (.int (nI ((onG vo (nI (k)) nv))))] [.int (nI (2))] _ [] rfl trivial ?_
      have e9_0 : F_Lidle k nv vo ls cr = (nI (2)) := by rw [F_Lidle, if_pos c11_1, if_neg c28_3]
      exact AR.retI dc_L_idle_73 rfl e9_0.symm rfl
  · refine AR.run g_L_idle_14_2 73 [some (.int (nI (k))), some (.ref 16384), some (.ref 16385), some (.ref 16388), some (.ref 16392), some (.int (oI (onL vo (nI (k)) nv)))] [.int (nI (1))] _ [] rfl trivial ?_
    have e10_0 : F_Lidle k nv vo ls cr = (nI (1)) := by rw [F_Lidle, if_neg c11_1]
    exact AR.retI dc_L_idle_73 rfl e10_0.symm rfl
set_option maxRecDepth 100000 in
set_option maxHeartbeats 4000000 in
theorem s_LidleC {E : AE} (d : Nat) (k : Nat) {nv : Nat}  {o0 a0 t0 p0 u0 : List AC} {vo1 ls1 ln1 lb cr1 ca1 lo st cc1 vo ls ln cr ca cc : Nat → Int32} (hk : k < 2) (hc0 : cc 0 = nI nv) (h4 : nv ≤ 4) (hL : ∀ v, v < nv → vo (7 * v + 2) = nI (lL vo v) ∧ lL vo v ≤ 8) : CT E M_L_idle (d + 1) [.int (nI (k)), .ref 24576, .ref 24577, .ref 24579, .ref 24581] (hp o0 a0 t0 p0 (la_ vo1 ls1 ln1 lb cr1 ca1 lo st cc1) u0 (xs_ (co_ vo ls ln cr ca cc))) (.inl (some (.int (F_Lidle k nv vo ls cr)))) (hp o0 a0 t0 p0 (la_ vo1 ls1 ln1 lb cr1 ca1 lo st cc1) u0 (xs_ (co_ vo ls ln cr ca cc))) 0 0 := by
  refine CT.of (L := [some (.int (nI (k))), some (.ref 24576), some (.ref 24577), some (.ref 24579), some (.ref 24581), none]) rfl rfl ?_
  refine AR.run g_L_idle_0_3 4 [some (.int (nI (k))), some (.ref 24576), some (.ref 24577), some (.ref 24579), some (.ref 24581), none] [.ref 24581, .ref 24576, .int (nI (k))] _ [] rfl trivial ?_
  refine AR.callS1 [.int (nI (k)), .ref 24576, .ref 24581] [] lk_L_8 dc_L_idle_4 (s_LonCO _ (nI (k)) (by assumption) (by omega)) (by first | rfl | (simp only [nI_add, pk_mul]; first | done | rfl)) rfl ?_
  refine AR.run g_L_idle_7_2 11 [some (.int (nI (k))), some (.ref 24576), some (.ref 24577), some (.ref 24579), some (.ref 24581), some (.int (oI (onL vo (nI (k)) nv)))] [.int (oI (onL vo (nI (k)) nv))] _ [] rfl trivial ?_
  refine AR.ge (tgt := 18) dc_L_idle_11 (by decide) (fun c11_1 => ?_) (fun c11_1 => ?_)
  · obtain ⟨hx2, hy2⟩ := onL_get (by assumption)
    refine AR.cast (L' := [some (.int (nI (k))), some (.ref 24576), some (.ref 24577), some (.ref 24579), some (.ref 24581), some (.int (nI ((onG vo (nI (k)) nv))))]) (st' := []) (by rw [hx2]; rfl) rfl rfl ?_
    refine AR.run g_L_idle_18_6 27 [some (.int (nI (k))), some (.ref 24576), some (.ref 24577), some (.ref 24579), some (.ref 24581), some (.int (nI ((onG vo (nI (k)) nv))))] [.int (((nI (7)) * (nI ((onG vo (nI (k)) nv)))) + (nI (6))), .ref 24576] _ [] rfl trivial ?_
    refine AR.ald (n := 0) (e := ((7 * (onG vo (nI (k)) nv)) + 6)) ok_L_idle_27 (by first | rfl | (simp only [nI_add, pk_mul]; first | done | rfl)) rfl (by omega) (by first | decide | omega) ?_
    refine AR.le (tgt := 35) dc_L_idle_28 (by decide) (fun c28_3 => ?_) (fun c28_3 => ?_)
    · refine AR.run g_L_idle_35_6 43 [some (.int (nI (k))), some (.ref 24576), some (.ref 24577), some (.ref 24579), some (.ref 24581), some (.int (nI ((onG vo (nI (k)) nv))))] [.int (((nI (7)) * (nI ((onG vo (nI (k)) nv)))) + (nI (3))), .ref 24576] _ [] rfl trivial ?_
      refine AR.ald (n := 0) (e := ((7 * (onG vo (nI (k)) nv)) + 3)) ok_L_idle_43 (by first | rfl | (simp only [nI_add, pk_mul]; first | done | rfl)) rfl (by omega) (by first | decide | omega) ?_
      refine AR.run g_L_idle_44_6 50 [some (.int (nI (k))), some (.ref 24576), some (.ref 24577), some (.ref 24579), some (.ref 24581), some (.int (nI ((onG vo (nI (k)) nv))))] [.int (((nI (4)) * (nI (k))) + (nI (1))), .ref 24579, .int (vo ((7 * (onG vo (nI (k)) nv)) + 3))] _ [] rfl trivial ?_
      refine AR.ald (n := 0) (e := ((4 * k) + 1)) ok_L_idle_50 (by first | rfl | (simp only [nI_add, pk_mul]; first | done | rfl)) rfl (by omega) (by first | decide | omega) ?_
      refine AR.le2 (tgt := 58) dc_L_idle_51 (by decide) (fun c51_4 => ?_) (fun c51_4 => ?_)
      · refine AR.run g_L_idle_58_3 62 [some (.int (nI (k))), some (.ref 24576), some (.ref 24577), some (.ref 24579), some (.ref 24581), some (.int (nI ((onG vo (nI (k)) nv))))] [.ref 24577, .ref 24576, .int (nI ((onG vo (nI (k)) nv)))] _ [] rfl trivial ?_
        refine AR.callS1 [.int (nI ((onG vo (nI (k)) nv))), .ref 24576, .ref 24577] [] lk_L_14 dc_L_idle_62 (s_LnextCO _ (onG vo (nI (k)) nv) (by omega) (by first | assumption | exact (hL (onG vo (nI (k)) nv) (by omega)).1) (by first | assumption | exact (hL (onG vo (nI (k)) nv) (by omega)).2)) (by first | rfl | (simp only [nI_add, pk_mul]; first | done | rfl)) rfl ?_
        refine AR.ge (tgt := 72) dc_L_idle_65 (by decide) (fun c65_5 => ?_) (fun c65_5 => ?_)
        · refine AR.run g_L_idle_72_1 73 [some (.int (nI (k))), some (.ref 24576), some (.ref 24577), some (.ref 24579), some (.ref 24581), some (.int (nI ((onG vo (nI (k)) nv))))] [.int (nI (0))] _ [] rfl trivial ?_
          have e6_0 : F_Lidle k nv vo ls cr = (nI (0)) := by rw [F_Lidle, if_pos c11_1, if_pos c28_3, if_pos c51_4, if_pos c65_5]
          exact AR.retI dc_L_idle_73 rfl e6_0.symm rfl
        · refine AR.run g_L_idle_68_2 73 [some (.int (nI (k))), some (.ref 24576), some (.ref 24577), some (.ref 24579), some (.ref 24581), some (.int (nI ((onG vo (nI (k)) nv))))] [.int (nI (4))] _ [] rfl trivial ?_
          have e7_0 : F_Lidle k nv vo ls cr = (nI (4)) := by rw [F_Lidle, if_pos c11_1, if_pos c28_3, if_pos c51_4, if_neg c65_5]
          exact AR.retI dc_L_idle_73 rfl e7_0.symm rfl
      · refine AR.run g_L_idle_54_2 73 [some (.int (nI (k))), some (.ref 24576), some (.ref 24577), some (.ref 24579), some (.ref 24581), some (.int (nI ((onG vo (nI (k)) nv))))] [.int (nI (3))] _ [] rfl trivial ?_
        have e8_0 : F_Lidle k nv vo ls cr = (nI (3)) := by rw [F_Lidle, if_pos c11_1, if_pos c28_3, if_neg c51_4]
        exact AR.retI dc_L_idle_73 rfl e8_0.symm rfl
    · refine AR.run g_L_idle_31_2 73 [some (.int (nI (k))), some (.ref 24576), some (.ref 24577), some (.ref 24579), some (.ref 24581), some (.int (nI ((onG vo (nI (k)) nv))))] [.int (nI (2))] _ [] rfl trivial ?_
      have e9_0 : F_Lidle k nv vo ls cr = (nI (2)) := by rw [F_Lidle, if_pos c11_1, if_neg c28_3]
      exact AR.retI dc_L_idle_73 rfl e9_0.symm rfl
  · refine AR.run g_L_idle_14_2 73 [some (.int (nI (k))), some (.ref 24576), some (.ref 24577), some (.ref 24579), some (.ref 24581), some (.int (oI (onL vo (nI (k)) nv)))] [.int (nI (1))] _ [] rfl trivial ?_
    have e10_0 : F_Lidle k nv vo ls cr = (nI (1)) := by rw [F_Lidle, if_neg c11_1]
    exact AR.retI dc_L_idle_73 rfl e10_0.symm rfl
theorem idle_pos {k nv : Nat} {vo ls cr : Nat → Int32} (h : F_Lidle k nv vo ls cr ≤ 0) : 0 ≤ oI (onL vo (nI k) nv) ∧ 0 ≤ oI (nxL vo ls (onG vo (nI k) nv)) := by
  unfold F_Lidle at h
  split at h
  · rename_i h1
    refine ⟨h1, ?_⟩
    split at h
    · split at h
      · split at h
        · assumption
        · exact absurd h (by decide)
      · exact absurd h (by decide)
    · exact absurd h (by decide)
  · exact absurd h (by decide)
