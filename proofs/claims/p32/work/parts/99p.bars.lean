/-! BARS: what the law's text bars -/
section BARS
variable {x y v : Nat} {tc vo lb : Nat → Int32}
theorem yc_at (te : Nat → Int32) (y p : Nat) : YC (F_Lyear_tc y p te) p y ∧ ∀ i, i < p → F_Lyear_tc y p te i = te i := by
  unfold F_Lyear_tc YC
  refine ⟨⟨?_, ?_, ?_, ?_, ?_⟩, fun i hi => ?_⟩
  · rw [upd_ne (by omega), upd_ne (by omega), upd_ne (by omega), upd_ne (by omega), upd_eq]
  · rw [upd_ne (by omega), upd_ne (by omega), upd_ne (by omega), upd_eq]
  · rw [upd_ne (by omega), upd_ne (by omega), show p + 2 = p + 1 + 1 from rfl, upd_eq]
  · rw [upd_ne (by omega), show p + 3 = p + 1 + 1 + 1 from rfl, upd_eq]
  · rw [show p + 4 = p + 1 + 1 + 1 + 1 from rfl, upd_eq]
  · rw [upd_ne (by omega), upd_ne (by omega), upd_ne (by omega), upd_ne (by omega), upd_ne (by omega)]
/-- part k as it stands in a text -/
def PT (te : Nat → Int32) (x y n k : Nat) : Prop := (k ≠ 0 → te (bq x y n k) = nI 44) ∧ PC te (bq x y n k + if k = 0 then 0 else 1) (ba x n k) (bb x y n k) (bu x k)
theorem YC.cg {te te' : Nat → Int32} {p y : Nat} (h : YC te p y) (e : ∀ i, i < p + 5 → te' i = te i) : YC te' p y := by
  obtain ⟨h1, h2, h3, h4, h5⟩ := h
  exact ⟨(e _ (by omega)).trans h1, (e _ (by omega)).trans h2, (e _ (by omega)).trans h3, (e _ (by omega)).trans h4, (e _ (by omega)).trans h5⟩
theorem PT.cg {te te' : Nat → Int32} {x y n k : Nat} (h : PT te x y n k) (e : ∀ i, i < bq x y n (k + 1) → te' i = te i) : PT te' x y n k := by
  have hq : bq x y n (k + 1) = bq x y n k + bln x y n k := rfl
  obtain ⟨h1, h2, h3⟩ := h
  unfold bln at hq
  refine ⟨fun hk => (e _ (by split at hq <;> split at hq <;> omega)).trans (h1 hk), (e _ (by split at hq <;> split at hq <;> split <;> omega)).trans h2, ?_⟩
  rcases h3 with ⟨h4, h5⟩ | ⟨h4, h5, h6, h7⟩
  · exact Or.inl ⟨h4, h5.cg fun i hi => e i (by rw [if_pos h4] at hq; split at hq <;> split at hi <;> omega)⟩
  · rw [if_neg (show ¬ bb x y n k ≤ ba x n k by omega)] at hq
    exact Or.inr ⟨h4, (e _ (by split at hq <;> split <;> omega)).trans h5, (e _ (by split at hq <;> split <;> omega)).trans h6, h7.cg fun i hi => e i (by split at hq <;> split at hi <;> omega)⟩
theorem b19_tc (j : Nat) (te : Nat → Int32) (w : Int32) (l : Nat → Int32) : PT (B_Lbars_19 v x y vo j te w l).1 x y (lL vo v) j ∧ (∀ i, i < bq x y (lL vo v) j → (B_Lbars_19 v x y vo j te w l).1 i = te i) ∧ (B_Lbars_19 v x y vo j te w l).2.2 = L_Lbars_158 v x vo j l (bb x y (lL vo v) j + 1 - ba x (lL vo v) j) := by
  unfold B_Lbars_19
  unfold PT
  by_cases h0 : j = 0
  · rw [if_pos h0, if_pos h0]
    by_cases h1 : bb x y (lL vo v) j ≤ ba x (lL vo v) j
    · rw [if_pos h1]
      obtain ⟨y1, y2⟩ := yc_at (upd te (bq x y (lL vo v) j) (nI (48 + ba x (lL vo v) j))) (bu x j) (bq x y (lL vo v) j + 1)
      refine ⟨⟨fun e => absurd h0 e, ?_, Or.inl ⟨h1, y1⟩⟩, fun i hi => ?_, rfl⟩
      · rw [Nat.add_zero]
        exact (y2 _ (by omega)).trans upd_eq
      · exact (y2 i (by omega)).trans (upd_ne (by omega))
    · rw [if_neg h1]
      obtain ⟨y1, y2⟩ := yc_at (upd (upd (upd te (bq x y (lL vo v) j) (nI (48 + ba x (lL vo v) j))) (bq x y (lL vo v) j + 1) (nI 45)) (bq x y (lL vo v) j + 1 + 1) (nI (48 + bb x y (lL vo v) j))) (bu x j) (bq x y (lL vo v) j + 1 + 1 + 1)
      refine ⟨⟨fun e => absurd h0 e, ?_, Or.inr ⟨by omega, ?_, ?_, y1⟩⟩, fun i hi => ?_, rfl⟩
      · refine (y2 _ (by omega)).trans ?_
        rw [upd_ne (by omega), upd_ne (by omega), Nat.add_zero, upd_eq]
      · refine (y2 _ (by omega)).trans ?_
        rw [upd_ne (by omega), Nat.add_zero, upd_eq]
      · refine (y2 _ (by omega)).trans ?_
        rw [Nat.add_zero, show bq x y (lL vo v) j + 2 = bq x y (lL vo v) j + 1 + 1 from rfl, upd_eq]
      · refine (y2 _ (by omega)).trans ?_
        rw [upd_ne (by omega), upd_ne (by omega), upd_ne (by omega)]
  · rw [if_neg h0, if_neg h0]
    by_cases h1 : bb x y (lL vo v) j ≤ ba x (lL vo v) j
    · rw [if_pos h1]
      obtain ⟨y1, y2⟩ := yc_at (upd (upd te (bq x y (lL vo v) j) (nI 44)) (bq x y (lL vo v) j + 1) (nI (48 + ba x (lL vo v) j))) (bu x j) (bq x y (lL vo v) j + 1 + 1)
      refine ⟨⟨fun _ => ?_, ?_, Or.inl ⟨h1, y1⟩⟩, fun i hi => ?_, rfl⟩
      · refine (y2 _ (by omega)).trans ?_
        rw [upd_ne (by omega), upd_eq]
      · exact (y2 _ (by omega)).trans upd_eq
      · refine (y2 _ (by omega)).trans ?_
        rw [upd_ne (by omega), upd_ne (by omega)]
    · rw [if_neg h1]
      obtain ⟨y1, y2⟩ := yc_at (upd (upd (upd (upd te (bq x y (lL vo v) j) (nI 44)) (bq x y (lL vo v) j + 1) (nI (48 + ba x (lL vo v) j))) (bq x y (lL vo v) j + 1 + 1) (nI 45)) (bq x y (lL vo v) j + 1 + 1 + 1) (nI (48 + bb x y (lL vo v) j))) (bu x j) (bq x y (lL vo v) j + 1 + 1 + 1 + 1)
      refine ⟨⟨fun _ => ?_, ?_, Or.inr ⟨by omega, ?_, ?_, y1⟩⟩, fun i hi => ?_, rfl⟩
      · refine (y2 _ (by omega)).trans ?_
        rw [upd_ne (by omega), upd_ne (by omega), upd_ne (by omega), upd_eq]
      · refine (y2 _ (by omega)).trans ?_
        rw [upd_ne (by omega), upd_ne (by omega), upd_eq]
      · refine (y2 _ (by omega)).trans ?_
        rw [upd_ne (by omega), upd_eq]
      · refine (y2 _ (by omega)).trans ?_
        rw [show bq x y (lL vo v) j + 1 + 2 = bq x y (lL vo v) j + 1 + 1 + 1 from rfl, upd_eq]
      · refine (y2 _ (by omega)).trans ?_
        rw [upd_ne (by omega), upd_ne (by omega), upd_ne (by omega), upd_ne (by omega)]
theorem bq_mono {n k : Nat} : ∀ j : Nat, k ≤ j → bq x y n k ≤ bq x y n j
  | 0, h => by rw [show k = 0 by omega]; exact Nat.le_refl _
  | j + 1, h => by
    by_cases e : k = j + 1
    · rw [e]; exact Nat.le_refl _
    · have := bq_mono (n := n) j (show k ≤ j by omega)
      show _ ≤ bq x y n j + bln x y n j
      omega
theorem l19_tc : ∀ j : Nat, ∀ k, k < j → PT (L_Lbars_19 v x y tc vo lb j).1 x y (lL vo v) k
  | 0, k, h => by omega
  | j + 1, k, h => by
    obtain ⟨b1, b2, -⟩ := b19_tc (v := v) (x := x) (y := y) (vo := vo) j (L_Lbars_19 v x y tc vo lb j).1 (L_Lbars_19 v x y tc vo lb j).2.1 (L_Lbars_19 v x y tc vo lb j).2.2
    show PT (B_Lbars_19 v x y vo j (L_Lbars_19 v x y tc vo lb j).1 (L_Lbars_19 v x y tc vo lb j).2.1 (L_Lbars_19 v x y tc vo lb j).2.2).1 x y (lL vo v) k
    by_cases e : k = j
    · rw [e]; exact b1
    · exact (l19_tc j k (by omega)).cg fun i hi => b2 i (Nat.lt_of_lt_of_le hi (bq_mono j (by omega)))
theorem l19_lb (j : Nat) : (L_Lbars_19 v x y tc vo lb (j + 1)).2.2 = L_Lbars_158 v x vo j (L_Lbars_19 v x y tc vo lb j).2.2 (bb x y (lL vo v) j + 1 - ba x (lL vo v) j) := (b19_tc j _ _ _).2.2
theorem asc_of {te : Nat → Int32} {i i' c : Nat} (p : te i' = nI c) (e : i = i') (h : c < 127) : ∃ c : Nat, c < 127 ∧ te i = nI c := ⟨c, h, by rw [e]; exact p⟩
/-- every character is in ASCII -/
theorem PT_asc {te : Nat → Int32} {n k : Nat} (h : PT te x y n k) (ha : ba x n k < 8) (hb : bb x y n k < 8) {i : Nat} (h1 : bq x y n k ≤ i) (h2 : i < bq x y n (k + 1)) : ∃ c : Nat, c < 127 ∧ te i = nI c := by
  have hq : bq x y n (k + 1) = bq x y n k + bln x y n k := rfl
  have hy := bu_r (x := x) (j := k)
  have hyc : ∀ p, YC te p (bu x k) → p ≤ i → i < p + 5 → ∃ c : Nat, c < 127 ∧ te i = nI c := fun p hp1 g1 g2 => by
    obtain ⟨a1, a2, a3, a4, a5⟩ := hp1
    obtain rfl | rfl | rfl | rfl | rfl : i = p ∨ i = p + 1 ∨ i = p + 2 ∨ i = p + 3 ∨ i = p + 4 := by omega
    · exact ⟨_, by omega, a1⟩
    · exact ⟨_, by omega, a2⟩
    · exact ⟨_, by omega, a3⟩
    · exact ⟨_, by omega, a4⟩
    · exact ⟨_, by omega, a5⟩
  obtain ⟨p1, p2, p3⟩ := h
  unfold bln at hq
  by_cases hk : k = 0
  · rw [if_pos hk] at p2 p3 hq
    rcases p3 with ⟨p4, p5⟩ | ⟨p4, p5, p6, p7⟩
    · rw [if_pos p4] at hq
      by_cases e : i = bq x y n k + 0
      · exact asc_of p2 e (by omega)
      · exact hyc _ p5 (by omega) (by omega)
    · rw [if_neg (show ¬ bb x y n k ≤ ba x n k by omega)] at hq
      by_cases e : i = bq x y n k + 0
      · exact asc_of p2 e (by omega)
      by_cases e1 : i = bq x y n k + 0 + 1
      · exact asc_of p5 e1 (by omega)
      by_cases e2 : i = bq x y n k + 0 + 2
      · exact asc_of p6 e2 (by omega)
      · exact hyc _ p7 (by omega) (by omega)
  · rw [if_neg hk] at p2 p3 hq
    by_cases e9 : i = bq x y n k
    · exact ⟨44, by omega, by rw [e9]; exact p1 hk⟩
    rcases p3 with ⟨p4, p5⟩ | ⟨p4, p5, p6, p7⟩
    · rw [if_pos p4] at hq
      by_cases e : i = bq x y n k + 1
      · exact asc_of p2 e (by omega)
      · exact hyc _ p5 (by omega) (by omega)
    · rw [if_neg (show ¬ bb x y n k ≤ ba x n k by omega)] at hq
      by_cases e : i = bq x y n k + 1
      · exact asc_of p2 e (by omega)
      by_cases e1 : i = bq x y n k + 1 + 1
      · exact asc_of p5 e1 (by omega)
      by_cases e2 : i = bq x y n k + 1 + 2
      · exact asc_of p6 e2 (by omega)
      · exact hyc _ p7 (by omega) (by omega)
/-- the whole text is read -/
theorem bars_rd {te fr to un : Nat → Int32} {n : Nat} (hn : 0 < n) (hn8 : n ≤ 8) (hP : ∀ k, k < 3 → PT te x y n k) : ∃ fr' to' un' : Nat → Int32, W_5read_12 te (bq x y n 3) 0 fr to un (nI 0) (nI 0) = (nI (bq x y n 3), fr', to', un', nI 2, nI 10) ∧ ∀ k, k < 3 → fr' k = nI (ba x n k) ∧ to' k = (if bb x y n k ≤ ba x n k then -1 else nI (bb x y n k)) ∧ un' k = nI (bu x k) := by
  have hA : ∀ k, ba x n k < 8 := fun k => Nat.lt_of_lt_of_le (ba_lt hn) hn8
  have hB : ∀ k, bb x y n k < 8 := fun k => Nat.lt_of_lt_of_le (bb_lt hn) hn8
  have hU : ∀ k, 1800 ≤ bu x k ∧ bu x k < 2200 := fun k => ⟨Nat.le_trans (by omega) (bu_r (x := x) (j := k)).1, (bu_r (x := x) (j := k)).2⟩
  have q0 : bq x y n 0 = 0 := rfl
  have q1 : bq x y n 1 = bq x y n 0 + bln x y n 0 := rfl
  have q2 : bq x y n 2 = bq x y n 1 + bln x y n 1 := rfl
  have q3 : bq x y n 3 = bq x y n 2 + bln x y n 2 := rfl
  have l0 : bln x y n 0 = if bb x y n 0 ≤ ba x n 0 then 6 else 8 := by unfold bln; rw [if_pos rfl, Nat.zero_add]
  have l1 : bln x y n 1 = 1 + if bb x y n 1 ≤ ba x n 1 then 6 else 8 := rfl
  have l2 : bln x y n 2 = 1 + if bb x y n 2 ≤ ba x n 2 then 6 else 8 := rfl
  obtain ⟨-, c0⟩ := hP 0 (by omega)
  obtain ⟨m1, c1⟩ := hP 1 (by omega)
  obtain ⟨m2, c2⟩ := hP 2 (by omega)
  rw [if_pos rfl, Nat.add_zero, q0] at c0
  rw [if_neg (by omega)] at c1 c2
  obtain ⟨f1, t1, u1, b1, b2, b3, b4, b5⟩ := rd_part (te := te) (fr := fr) (to := to) (un := un) (g := bln x y n 1 + bln x y n 2) (n := 0) (by omega) (hA 0) (hB 0) (hU 0) c0
  have d1 := rd_comma (te := te) (fr := f1) (to := t1) (un := u1) (g := (if bb x y n 1 ≤ ba x n 1 then 6 else 8) + bln x y n 2) (n := 0) (by omega) (m1 (by omega))
  obtain ⟨f2, t2, u2, e1, e2, e3, e4, e5⟩ := rd_part (te := te) (fr := f1) (to := t1) (un := u1) (g := bln x y n 2) (n := 1) (by omega) (hA 1) (hB 1) (hU 1) c1
  have d2 := rd_comma (te := te) (fr := f2) (to := t2) (un := u2) (g := if bb x y n 2 ≤ ba x n 2 then 6 else 8) (n := 1) (by omega) (m2 (by omega))
  obtain ⟨f3, t3, u3, k1, k2, k3, k4, k5⟩ := rd_part (te := te) (fr := f2) (to := t2) (un := u2) (g := 0) (n := 2) (by omega) (hA 2) (hB 2) (hU 2) c2
  refine ⟨f3, t3, u3, ?_, fun k hk => ?_⟩
  · rw [show bq x y n 3 = bln x y n 1 + bln x y n 2 + (if bb x y n 0 ≤ ba x n 0 then 6 else 8) by omega, b1, show bln x y n 1 + bln x y n 2 = ((if bb x y n 1 ≤ ba x n 1 then 6 else 8) + bln x y n 2) + 1 by omega, show 0 + (if bb x y n 0 ≤ ba x n 0 then 6 else 8) = bq x y n 1 by omega, d1, show (if bb x y n 1 ≤ ba x n 1 then 6 else 8) + bln x y n 2 = bln x y n 2 + (if bb x y n 1 ≤ ba x n 1 then 6 else 8) by omega, show (0 + 1) = 1 from rfl, e1, show bq x y n 1 + 1 + (if bb x y n 1 ≤ ba x n 1 then 6 else 8) = bq x y n 2 by omega, show bln x y n 2 = (if bb x y n 2 ≤ ba x n 2 then 6 else 8) + 1 by omega, d2, show (if bb x y n 2 ≤ ba x n 2 then 6 else 8) = 0 + (if bb x y n 2 ≤ ba x n 2 then 6 else 8) by omega, show (1 + 1) = 2 from rfl, k1, W_5read_12]
    rw [show bq x y n 2 + 1 + (if bb x y n 2 ≤ ba x n 2 then 6 else 8) = bln x y n 2 + bln x y n 1 + (if bb x y n 0 ≤ ba x n 0 then 6 else 8) by omega]
    refine Prod.ext (congrArg nI ?_) rfl
    show bln x y n 2 + bln x y n 1 + (if bb x y n 0 ≤ ba x n 0 then 6 else 8) = _
    omega
  · obtain rfl | rfl | rfl : k = 0 ∨ k = 1 ∨ k = 2 := by omega
    · obtain ⟨g1, g2, g3⟩ := e5 0 (by omega)
      obtain ⟨h1, h2, h3⟩ := k5 0 (by omega)
      rw [h1, h2, h3, g1, g2, g3]
      exact ⟨b2, b3, b4⟩
    · obtain ⟨h1, h2, h3⟩ := k5 1 (by omega)
      rw [h1, h2, h3]
      exact ⟨e2, e3, e4⟩
    · exact ⟨k2, k3, k4⟩
end BARS
