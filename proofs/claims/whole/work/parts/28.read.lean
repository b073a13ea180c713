/-- the least number of characters of a part that ends in this state -/
def mnS (y : Nat) : Nat := if y < 3 then y else if y < 6 then y - 1 else y - 4
theorem go_inv {b sta : Int32} {k : Nat} (hk : k ≤ 10) (h1 : isN sta) (h2 : sta.toNatClampNeg ≤ 10) (hm : mnS k ≤ mnS sta.toNatClampNeg + 1) : isN (F_5goesOn_sta b (nI k) sta) ∧ (F_5goesOn_sta b (nI k) sta).toNatClampNeg ≤ 10 ∧ mnS (F_5goesOn_sta b (nI k) sta).toNatClampNeg ≤ mnS sta.toNatClampNeg + 1 := by
  unfold F_5goesOn_sta
  split
  · exact ⟨h1, h2, by omega⟩
  · have e : (nI k).toNatClampNeg = k := nI_clamp (by omega)
    refine ⟨by unfold isN; rw [e], by rw [e]; exact hk, by rw [e]; exact hm⟩
theorem first_inv {c : Int32} {fr : Nat → Int32} {en sta : Int32} (h1 : isN sta) (h2 : sta.toNatClampNeg < 3) : isN (F_5takesFirst_sta c fr en sta) ∧ (F_5takesFirst_sta c fr en sta).toNatClampNeg ≤ 10 ∧ mnS (F_5takesFirst_sta c fr en sta).toNatClampNeg ≤ mnS sta.toNatClampNeg + 1 := by
  unfold F_5takesFirst_sta
  (repeat' split) <;> refine go_inv (by omega) h1 (by omega) ?_ <;> (simp only [mnS]; (repeat' split) <;> omega)
theorem second_inv {c : Int32} {fr to : Nat → Int32} {en sta : Int32} (h1 : isN sta) (h3 : 3 ≤ sta.toNatClampNeg) (h2 : sta.toNatClampNeg < 6) : isN (F_5takesSecond_sta c fr to en sta) ∧ (F_5takesSecond_sta c fr to en sta).toNatClampNeg ≤ 10 ∧ mnS (F_5takesSecond_sta c fr to en sta).toNatClampNeg ≤ mnS sta.toNatClampNeg + 1 := by
  unfold F_5takesSecond_sta
  (repeat' split) <;> refine go_inv (by omega) h1 (by omega) ?_ <;> (simp only [mnS]; (repeat' split) <;> omega)
theorem year_inv {c : Int32} {un : Nat → Int32} {en sta : Int32} (h1 : isN sta) (h3 : 6 ≤ sta.toNatClampNeg) (h2 : sta.toNatClampNeg < 10) : isN (F_5takesYear_sta c un en sta) ∧ (F_5takesYear_sta c un en sta).toNatClampNeg ≤ 10 ∧ mnS (F_5takesYear_sta c un en sta).toNatClampNeg ≤ mnS sta.toNatClampNeg + 1 := by
  unfold F_5takesYear_sta
  (repeat' split) <;> refine go_inv (by omega) h1 (by omega) ?_ <;> (simp only [mnS]; (repeat' split) <;> omega)
/-- what the reader's state keeps, j characters read -/
def PI (j : Nat) (sta en : Int32) : Prop := isN sta ∧ sta.toNatClampNeg ≤ 10 ∧ isN en ∧ 7 * en.toNatClampNeg + mnS sta.toNatClampNeg ≤ j
theorem takes_inv {c : Int32} {fr to un : Nat → Int32} {en sta : Int32} {j : Nat} (hj : j ≤ 1000) (h : PI j sta en) : PI (j + 1) (F_5takes_sta c fr to un en sta) (F_5takes_en c en sta) := by
  obtain ⟨h1, h2, h3, h4⟩ := h
  unfold F_5takes_sta F_5takes_en
  split
  · split
    · split
      · split
        · -- a comma
          have e0 : (nI 0).toNatClampNeg = 0 := nI_clamp (by omega)
          have e1 : F_5goesOn_sta (nI 1) (nI 0) sta = nI 0 := by unfold F_5goesOn_sta; rw [if_neg (by decide)]
          rw [e1]
          obtain ⟨e, he⟩ : ∃ e, en.toNatClampNeg = e := ⟨_, rfl⟩
          rw [he] at h4
          simp only [nI_add, he]
          have e2 : (nI (e + 1)).toNatClampNeg = e + 1 := nI_clamp (by omega)
          refine ⟨by unfold isN; rw [e0], by rw [e0]; omega, by unfold isN; rw [e2], ?_⟩
          rw [e0, e2]
          have : mnS sta.toNatClampNeg = 6 := by rw [show sta.toNatClampNeg = 10 by omega]; rfl
          have : mnS 0 = 0 := rfl
          omega
        · have e1 : F_5goesOn_sta (nI 0) (nI 0) sta = sta := by unfold F_5goesOn_sta; rw [if_pos (by decide)]
          rw [e1]
          have e2 : nI en.toNatClampNeg + nI 0 = en := by rw [nI_add, Nat.add_zero]; exact h3.symm
          rw [e2]
          exact ⟨h1, h2, h3, by omega⟩
      · obtain ⟨a, b, c'⟩ := year_inv (c := c) (un := un) (en := en) h1 (by omega) (by omega)
        exact ⟨a, b, h3, by omega⟩
    · obtain ⟨a, b, c'⟩ := second_inv (c := c) (fr := fr) (to := to) (en := en) h1 (by omega) (by omega)
      exact ⟨a, b, h3, by omega⟩
  · obtain ⟨a, b, c'⟩ := first_inv (c := c) (fr := fr) (en := en) h1 (by omega)
    exact ⟨a, b, h3, by omega⟩
def W_5read_12 (te : Nat → Int32) : Nat → Nat → (Nat → Int32) → (Nat → Int32) → (Nat → Int32) → (Int32) → (Int32) → (Int32) × (Nat → Int32) × (Nat → Int32) × (Nat → Int32) × (Int32) × (Int32)
  | 0, j12, y12_fr, y12_to, y12_un, y12_en, y12_sta => (nI (j12), y12_fr, y12_to, y12_un, y12_en, y12_sta)
  | f12 + 1, j12, y12_fr, y12_to, y12_un, y12_en, y12_sta => if (F_5takes (te j12) y12_fr y12_to y12_un y12_en y12_sta) = 0 then (nI (j12), F_5takes_fr (te j12) y12_fr y12_en y12_sta, F_5takes_to (te j12) y12_fr y12_to y12_en y12_sta, F_5takes_un (te j12) y12_un y12_en y12_sta, F_5takes_en (te j12) y12_en y12_sta, F_5takes_sta (te j12) y12_fr y12_to y12_un y12_en y12_sta) else W_5read_12 te f12 (j12 + 1) (F_5takes_fr (te j12) y12_fr y12_en y12_sta) (F_5takes_to (te j12) y12_fr y12_to y12_en y12_sta) (F_5takes_un (te j12) y12_un y12_en y12_sta) (F_5takes_en (te j12) y12_en y12_sta) (F_5takes_sta (te j12) y12_fr y12_to y12_un y12_en y12_sta)
def F_5read (q : Nat) (te : Nat → Int32) (fr : Nat → Int32) (to : Nat → Int32) (un : Nat → Int32) : Int32 := ((W_5read_12 te q 0 fr to un (nI (0)) (nI (0))).1)
def F_5read_fr (q : Nat) (te : Nat → Int32) (fr : Nat → Int32) (to : Nat → Int32) (un : Nat → Int32) : Nat → Int32 := ((W_5read_12 te q 0 fr to un (nI (0)) (nI (0))).2.1)
def F_5read_to (q : Nat) (te : Nat → Int32) (fr : Nat → Int32) (to : Nat → Int32) (un : Nat → Int32) : Nat → Int32 := ((W_5read_12 te q 0 fr to un (nI (0)) (nI (0))).2.2.1)
def F_5read_un (q : Nat) (te : Nat → Int32) (fr : Nat → Int32) (to : Nat → Int32) (un : Nat → Int32) : Nat → Int32 := ((W_5read_12 te q 0 fr to un (nI (0)) (nI (0))).2.2.2.1)
def F_5read_en (q : Nat) (te : Nat → Int32) (fr : Nat → Int32) (to : Nat → Int32) (un : Nat → Int32) : Int32 := ((W_5read_12 te q 0 fr to un (nI (0)) (nI (0))).2.2.2.2.1)
def F_5read_sta (q : Nat) (te : Nat → Int32) (fr : Nat → Int32) (to : Nat → Int32) (un : Nat → Int32) : Int32 := ((W_5read_12 te q 0 fr to un (nI (0)) (nI (0))).2.2.2.2.2)
theorem g_X5_read_0_8 : ab_oks M_X5_read [(0, .aload_n 0, 1, 0, 0, 0, .null), (1, .iconst 0, 1, 0, 0, 0, .int (nI (0))), (2, .putfield 121, 3, 5, 12, 948, .null), (5, .aload_n 0, 1, 0, 0, 0, .null), (6, .iconst 0, 1, 0, 0, 0, .int (nI (0))), (7, .putfield 124, 3, 5, 11, 947, .null), (10, .iconst 0, 1, 0, 0, 0, .int (nI (0))), (11, .istore_n 1, 1, 1, 0, 0, .null)] = true := by decide +kernel
theorem g_X5_read_12_3 : ab_oks M_X5_read [(12, .iload_n 1, 1, 1, 0, 0, .null), (13, .aload_n 0, 1, 0, 0, 0, .null), (14, .getfield 118, 3, 5, 14, 950, .null)] = true := by decide +kernel
theorem dc_X5_read_17 : decode (AM.bytes M_X5_read) 17 = .ok (.if_icmp .ge 22, 3) := by decide +kernel
theorem g_X5_read_39_1 : ab_oks M_X5_read [(39, .iload_n 1, 1, 1, 0, 0, .null)] = true := by decide +kernel
theorem dc_X5_read_40 : decode (AM.bytes M_X5_read) 40 = .ok (.ireturn, 1) := by decide +kernel
theorem g_X5_read_20_4 : ab_oks M_X5_read [(20, .aload_n 0, 1, 0, 0, 0, .null), (21, .aload_n 0, 1, 0, 0, 0, .null), (22, .getfield 19, 3, 5, 3, 939, .null), (25, .iload_n 1, 1, 1, 0, 0, .null)] = true := by decide +kernel
theorem ok_X5_read_26 : ab_ok M_X5_read (26, .iaload, 1, 0, 0, 0, .null) = true := by decide +kernel
theorem lk_5_140 : ab_lkV "LeafCradlesModel" 140 M_X5_takes 1 [1127, 1129, 54, 97, 1130] = true := by decide +kernel
theorem dc_X5_read_27 : decode (AM.bytes M_X5_read) 27 = .ok (.invokevirtual 140, 3) := by decide +kernel
theorem dc_X5_read_30 : decode (AM.bytes M_X5_read) 30 = .ok (.ifCond .eq 9, 3) := by decide +kernel
theorem g_X5_read_33_2 : ab_oks M_X5_read [(33, .iinc 1 1, 3, 1, 0, 0, .int (nI (1))), (36, .goto (-24), 3, 12, 0, 0, .null)] = true := by decide +kernel
set_option maxRecDepth 100000 in
set_option maxHeartbeats 4000000 in
theorem s_5read {E : AE} (d : Nat) {q : Nat}  {o0 a0 t0 p0 u0 l0 : List AC} {z sa ro te fr to un ga pi be : Nat → Int32} {bm en sta sv ln th : Int32} {hh : Int64} (hln : ln = nI q) (hq : q ≤ 60) : CT E M_X5_read (d + 3) [.ref 16384] (hp o0 a0 t0 p0 (mo z sa ro te fr to un ga pi be bm en sta sv ln th hh) u0 l0) (.inl (some (.int (F_5read q te fr to un)))) (hp o0 a0 t0 p0 (mo z sa ro te (F_5read_fr q te fr to un) (F_5read_to q te fr to un) (F_5read_un q te fr to un) ga pi be bm (F_5read_en q te fr to un) (F_5read_sta q te fr to un) sv ln th hh) u0 l0) 0 0 := by
  refine CT.of (L := [some (.ref 16384), none]) rfl rfl ?_
  refine AR.run g_X5_read_0_8 12 [some (.ref 16384), some (.int (nI (0)))] [] (hp o0 a0 t0 p0 (mo z sa ro te fr to un ga pi be bm (nI (0)) (nI (0)) sv ln th hh) u0 l0) [] rfl trivial ?_
  have hW : ∀ (f12 j12 : Nat) (y12_fr : Nat → Int32) (y12_to : Nat → Int32) (y12_un : Nat → Int32) (y12_en : Int32) (y12_sta : Int32), j12 + f12 = q → PI j12 y12_sta y12_en → AR E M_X5_read (d + 3) 12 [some (.ref 16384), some (.int (nI (j12)))] [] (hp o0 a0 t0 p0 (mo z sa ro te y12_fr y12_to y12_un ga pi be bm y12_en y12_sta sv ln th hh) u0 l0) (.inl (some (.int ((W_5read_12 te f12 j12 y12_fr y12_to y12_un y12_en y12_sta).1)))) (hp o0 a0 t0 p0 (mo z sa ro te ((W_5read_12 te f12 j12 y12_fr y12_to y12_un y12_en y12_sta).2.1) ((W_5read_12 te f12 j12 y12_fr y12_to y12_un y12_en y12_sta).2.2.1) ((W_5read_12 te f12 j12 y12_fr y12_to y12_un y12_en y12_sta).2.2.2.1) ga pi be bm ((W_5read_12 te f12 j12 y12_fr y12_to y12_un y12_en y12_sta).2.2.2.2.1) ((W_5read_12 te f12 j12 y12_fr y12_to y12_un y12_en y12_sta).2.2.2.2.2) sv ln th hh) u0 l0) 0 0 := by
    intro f12
    induction f12 with
    | zero => 
      intro j12 y12_fr y12_to y12_un y12_en y12_sta hj12 hI12
      obtain ⟨ha1, ha2, ha3, ha4⟩ := id hI12
      refine AR.run g_X5_read_12_3 17 [some (.ref 16384), some (.int (nI (j12)))] [.int (ln), .int (nI (j12))] _ [] rfl trivial ?_
      refine AR.top hln ?_
      refine AR.ge2N (tgt := 39) (a := j12) (b := q) dc_X5_read_17 (by decide) (by first | rfl | (simp only [nI_add, pk_mul]; first | done | rfl)) (by first | rfl | (simp only [nI_add, pk_mul]; first | done | rfl)) (by omega) (by omega) (fun c17_1 => ?_) (fun c17_1 => absurd c17_1 (by omega))
      refine AR.run g_X5_read_39_1 40 [some (.ref 16384), some (.int (nI (j12)))] [.int (nI (j12))] _ [] rfl trivial ?_
      have e2 : W_5read_12 te 0 j12 y12_fr y12_to y12_un y12_en y12_sta = (nI (j12), y12_fr, y12_to, y12_un, y12_en, y12_sta) := by rw [W_5read_12]
      rw [e2]
      exact AR.retI dc_X5_read_40 rfl rfl rfl
    | succ f12 ih12 => 
      intro j12 y12_fr y12_to y12_un y12_en y12_sta hj12 hI12
      obtain ⟨ha1, ha2, ha3, ha4⟩ := id hI12
      refine AR.run g_X5_read_12_3 17 [some (.ref 16384), some (.int (nI (j12)))] [.int (ln), .int (nI (j12))] _ [] rfl trivial ?_
      refine AR.top hln ?_
      refine AR.ge2N (tgt := 39) (a := j12) (b := q) dc_X5_read_17 (by decide) (by first | rfl | (simp only [nI_add, pk_mul]; first | done | rfl)) (by first | rfl | (simp only [nI_add, pk_mul]; first | done | rfl)) (by omega) (by omega) (fun c17_3 => absurd c17_3 (by omega)) (fun c17_3 => ?_)
      refine AR.run g_X5_read_20_4 26 [some (.ref 16384), some (.int (nI (j12)))] [.int (nI (j12)), .ref 16388, .ref 16384] _ [] rfl trivial ?_
      refine AR.ald (n := 0) (e := j12) ok_X5_read_26 (by first | rfl | (simp only [nI_add, pk_mul]; first | done | rfl)) rfl (by omega) (by first | decide | omega) ?_
      refine AR.callV1 (16384) [.int (te j12)] [] lk_5_140 dc_X5_read_27 rfl rfl (s_5takes _ (te j12) (by assumption) (by assumption) (by omega) (by omega)) (by first | rfl | (simp only [nI_add, pk_mul]; first | done | rfl)) rfl ?_
      refine AR.eq (tgt := 39) dc_X5_read_30 (by decide) (fun c30_4 => ?_) (fun c30_4 => ?_)
      · refine AR.run g_X5_read_39_1 40 [some (.ref 16384), some (.int (nI (j12)))] [.int (nI (j12))] _ [] rfl trivial ?_
        have e5 : W_5read_12 te (f12 + 1) j12 y12_fr y12_to y12_un y12_en y12_sta = (nI (j12), F_5takes_fr (te j12) y12_fr y12_en y12_sta, F_5takes_to (te j12) y12_fr y12_to y12_en y12_sta, F_5takes_un (te j12) y12_un y12_en y12_sta, F_5takes_en (te j12) y12_en y12_sta, F_5takes_sta (te j12) y12_fr y12_to y12_un y12_en y12_sta) := by rw [W_5read_12, if_pos c30_4]
        rw [e5]
        exact AR.retI dc_X5_read_40 rfl rfl rfl
      · refine AR.run g_X5_read_33_2 12 [some (.ref 16384), some (.int ((nI (j12)) + (nI (1))))] [] _ [] rfl trivial ?_
        have e6 : W_5read_12 te (f12 + 1) j12 y12_fr y12_to y12_un y12_en y12_sta = W_5read_12 te f12 (j12 + 1) (F_5takes_fr (te j12) y12_fr y12_en y12_sta) (F_5takes_to (te j12) y12_fr y12_to y12_en y12_sta) (F_5takes_un (te j12) y12_un y12_en y12_sta) (F_5takes_en (te j12) y12_en y12_sta) (F_5takes_sta (te j12) y12_fr y12_to y12_un y12_en y12_sta) := by rw [W_5read_12, if_neg c30_4]
        rw [e6]
        exact AR.cast (L' := [some (.ref 16384), some (.int (nI (j12 + 1)))]) (by first | rfl | rw [nI_add]) rfl rfl (ih12 (j12 + 1) (F_5takes_fr (te j12) y12_fr y12_en y12_sta) (F_5takes_to (te j12) y12_fr y12_to y12_en y12_sta) (F_5takes_un (te j12) y12_un y12_en y12_sta) (F_5takes_en (te j12) y12_en y12_sta) (F_5takes_sta (te j12) y12_fr y12_to y12_un y12_en y12_sta) (by omega) (takes_inv (by omega) hI12))
  have e8_0 : F_5read q te fr to un = ((W_5read_12 te q 0 fr to un (nI (0)) (nI (0))).1) := by rw [F_5read]
  have e8_1 : F_5read_fr q te fr to un = ((W_5read_12 te q 0 fr to un (nI (0)) (nI (0))).2.1) := by rw [F_5read_fr]
  have e8_2 : F_5read_to q te fr to un = ((W_5read_12 te q 0 fr to un (nI (0)) (nI (0))).2.2.1) := by rw [F_5read_to]
  have e8_3 : F_5read_un q te fr to un = ((W_5read_12 te q 0 fr to un (nI (0)) (nI (0))).2.2.2.1) := by rw [F_5read_un]
  have e8_4 : F_5read_en q te fr to un = ((W_5read_12 te q 0 fr to un (nI (0)) (nI (0))).2.2.2.2.1) := by rw [F_5read_en]
  have e8_5 : F_5read_sta q te fr to un = ((W_5read_12 te q 0 fr to un (nI (0)) (nI (0))).2.2.2.2.2) := by rw [F_5read_sta]
  exact AR.end' (by first | rfl | (rw [e8_0])) (by first | rfl | (rw [e8_1, e8_2, e8_3, e8_4, e8_5])) (AR.cast rfl rfl rfl (hW q 0 fr to un (nI (0)) (nI (0)) (by omega) ⟨rfl, by decide, rfl, by decide⟩))
def F_5firstError (q : Nat) (te : Nat → Int32) (fr : Nat → Int32) (to : Nat → Int32) (un : Nat → Int32) : Int32 := (F_5read q te fr to un)
def F_5firstError_fr (q : Nat) (te : Nat → Int32) (fr : Nat → Int32) (to : Nat → Int32) (un : Nat → Int32) : Nat → Int32 := (F_5read_fr q te fr to un)
def F_5firstError_to (q : Nat) (te : Nat → Int32) (fr : Nat → Int32) (to : Nat → Int32) (un : Nat → Int32) : Nat → Int32 := (F_5read_to q te fr to un)
def F_5firstError_un (q : Nat) (te : Nat → Int32) (fr : Nat → Int32) (to : Nat → Int32) (un : Nat → Int32) : Nat → Int32 := (F_5read_un q te fr to un)
def F_5firstError_en (q : Nat) (te : Nat → Int32) (fr : Nat → Int32) (to : Nat → Int32) (un : Nat → Int32) : Int32 := (F_5read_en q te fr to un)
def F_5firstError_sta (q : Nat) (te : Nat → Int32) (fr : Nat → Int32) (to : Nat → Int32) (un : Nat → Int32) : Int32 := (F_5read_sta q te fr to un)
def F_5firstError_th : Int32 := (nI (0))
theorem g_X5_firstError_0_4 : ab_oks M_X5_firstError [(0, .aload_n 0, 1, 0, 0, 0, .null), (1, .iconst 0, 1, 0, 0, 0, .int (nI (0))), (2, .putfield 40, 3, 5, 15, 951, .null), (5, .aload_n 0, 1, 0, 0, 0, .null)] = true := by decide +kernel
theorem lk_5_143 : ab_lkV "LeafCradlesModel" 143 M_X5_read 0 [1123, 1125, 53, 97, 1126] = true := by decide +kernel
theorem dc_X5_firstError_6 : decode (AM.bytes M_X5_firstError) 6 = .ok (.invokevirtual 143, 3) := by decide +kernel
theorem dc_X5_firstError_9 : decode (AM.bytes M_X5_firstError) 9 = .ok (.ireturn, 1) := by decide +kernel
set_option maxRecDepth 100000 in
set_option maxHeartbeats 4000000 in
theorem s_5firstError {E : AE} (d : Nat) {q : Nat}  {o0 a0 t0 p0 u0 l0 : List AC} {z sa ro te fr to un ga pi be : Nat → Int32} {bm en sta sv ln th : Int32} {hh : Int64} (hln : ln = nI q) (hq : q ≤ 60) : CT E M_X5_firstError (d + 4) [.ref 16384] (hp o0 a0 t0 p0 (mo z sa ro te fr to un ga pi be bm en sta sv ln th hh) u0 l0) (.inl (some (.int (F_5firstError q te fr to un)))) (hp o0 a0 t0 p0 (mo z sa ro te (F_5firstError_fr q te fr to un) (F_5firstError_to q te fr to un) (F_5firstError_un q te fr to un) ga pi be bm (F_5firstError_en q te fr to un) (F_5firstError_sta q te fr to un) sv ln F_5firstError_th hh) u0 l0) 0 0 := by
  refine CT.of (L := [some (.ref 16384)]) rfl rfl ?_
  refine AR.run g_X5_firstError_0_4 6 [some (.ref 16384)] [.ref 16384] (hp o0 a0 t0 p0 (mo z sa ro te fr to un ga pi be bm en sta sv ln (nI (0)) hh) u0 l0) [] rfl trivial ?_
  refine AR.callV1 (16384) [] [] lk_5_143 dc_X5_firstError_6 rfl rfl (s_5read _  (by assumption) (by omega)) (by first | rfl | (simp only [nI_add, pk_mul]; first | done | rfl)) rfl ?_
  have e1_0 : F_5firstError q te fr to un = (F_5read q te fr to un) := by rw [F_5firstError]
  have e1_1 : F_5firstError_fr q te fr to un = (F_5read_fr q te fr to un) := by rw [F_5firstError_fr]
  have e1_2 : F_5firstError_to q te fr to un = (F_5read_to q te fr to un) := by rw [F_5firstError_to]
  have e1_3 : F_5firstError_un q te fr to un = (F_5read_un q te fr to un) := by rw [F_5firstError_un]
  have e1_4 : F_5firstError_en q te fr to un = (F_5read_en q te fr to un) := by rw [F_5firstError_en]
  have e1_5 : F_5firstError_sta q te fr to un = (F_5read_sta q te fr to un) := by rw [F_5firstError_sta]
  have e1_6 : F_5firstError_th = (nI (0)) := by rw [F_5firstError_th]
  exact AR.retI dc_X5_firstError_9 rfl e1_0.symm (by rw [e1_1, e1_2, e1_3, e1_4, e1_5, e1_6])
