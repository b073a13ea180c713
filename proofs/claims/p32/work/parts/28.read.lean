/-- the least number of characters of a part that ends in this state -/
def mnS (y : Nat) : Nat := if y < 3 then y else if y < 6 then y - 1 else y - 4
theorem go_inv {b sta : Int32} {k : Nat} (hk : k ≤ 10) (h1 : isN sta) (h2 : sta.toNatClampNeg ≤ 10) (hm : mnS k ≤ mnS sta.toNatClampNeg + 1) : isN (F_5goesOn_sta b (nI k) sta) ∧ (F_5goesOn_sta b (nI k) sta).toNatClampNeg ≤ 10 ∧ mnS (F_5goesOn_sta b (nI k) sta).toNatClampNeg ≤ mnS sta.toNatClampNeg + 1 := by
  unfold F_5goesOn_sta
  split
  · exact ⟨h1, h2, by omega⟩
  · have e : (nI k).toNatClampNeg = k := nI_clamp (by omega)
    refine ⟨by unfold isN; rw [e], by rw [e]; exact hk, by rw [e]; exact hm⟩
theorem first_inv {c : Int32} {fr : Nat → Int32} {en sta : Int32} (h1 : isN sta) (h2 : sta.toNatClampNeg < 3) : isN (F_5takesFirst_sta c fr en sta) ∧ (F_5takesFirst_sta c fr en sta).toNatClampNeg ≤ 10 ∧ mnS (F_5takesFirst_sta c fr en sta).toNatClampNeg ≤ mnS sta.toNatClampNeg + 1 := by
  unfold F_5takesFirst_sta
  (repeat' split) <;> refine go_inv (by omega) h1 (by omega) ?_ <;> (simp only [mnS]; (repeat' split) <;> omega)
theorem second_inv {c : Int32} {fr to : Nat → Int32} {en sta : Int32} (h1 : isN sta) (h3 : 3 ≤ sta.toNatClampNeg) (h2 : sta.toNatClampNeg < 6) : isN (F_5takesSecond_sta c fr to en sta) ∧ (F_5takesSecond_sta c fr to en sta).toNatClampNeg ≤ 10 ∧ mnS (F_5takesSecond_sta c fr to en sta).toNatClampNeg ≤ mnS sta.toNatClampNeg + 1 := by
  unfold F_5takesSecond_sta
  (repeat' split) <;> refine go_inv (by omega) h1 (by omega) ?_ <;> (simp only [mnS]; (repeat' split) <;> omega)
theorem year_inv {c : Int32} {un : Nat → Int32} {en sta : Int32} (h1 : isN sta) (h3 : 6 ≤ sta.toNatClampNeg) (h2 : sta.toNatClampNeg < 10) : isN (F_5takesYear_sta c un en sta) ∧ (F_5takesYear_sta c un en sta).toNatClampNeg ≤ 10 ∧ mnS (F_5takesYear_sta c un en sta).toNatClampNeg ≤ mnS sta.toNatClampNeg + 1 := by
  unfold F_5takesYear_sta
  (repeat' split) <;> refine go_inv (by omega) h1 (by omega) ?_ <;> (simp only [mnS]; (repeat' split) <;> omega)
/-- what the reader's state keeps, j characters read -/
def PI (j : Nat) (sta en : Int32) : Prop := isN sta ∧ sta.toNatClampNeg ≤ 10 ∧ isN en ∧ 7 * en.toNatClampNeg + mnS sta.toNatClampNeg ≤ j
theorem takes_inv {c : Int32} {fr to un : Nat → Int32} {en sta : Int32} {j : Nat} (hj : j ≤ 1000) (h : PI j sta en) : PI (j + 1) (F_5takes_sta c fr to un en sta) (F_5takes_en c en sta) := by
  obtain ⟨h1, h2, h3, h4⟩ := h
  unfold F_5takes_sta F_5takes_en
  split
  · split
    · split
      · split
        · -- a comma
          have e0 : (nI 0).toNatClampNeg = 0 := nI_clamp (by omega)
          have e1 : F_5goesOn_sta (nI 1) (nI 0) sta = nI 0 := by unfold F_5goesOn_sta; rw [if_neg (by decide)]
          rw [e1]
          obtain ⟨e, he⟩ : ∃ e, en.toNatClampNeg = e := ⟨_, rfl⟩
          rw [he] at h4
          simp only [nI_add, he]
          have e2 : (nI (e + 1)).toNatClampNeg = e + 1 := nI_clamp (by omega)
          refine ⟨by unfold isN; rw [e0], by rw [e0]; omega, by unfold isN; rw [e2], ?_⟩
          rw [e0, e2]
          have : mnS sta.toNatClampNeg = 6 := by rw [show sta.toNatClampNeg = 10 by omega]; rfl
          have : mnS 0 = 0 := rfl
          omega
        · have e1 : F_5goesOn_sta (nI 0) (nI 0) sta = sta := by unfold F_5goesOn_sta; rw [if_pos (by decide)]
          rw [e1]
          have e2 : nI en.toNatClampNeg + nI 0 = en := by rw [nI_add, Nat.add_zero]; exact h3.symm
          rw [e2]
          exact ⟨h1, h2, h3, by omega⟩
      · obtain ⟨a, b, c'⟩ := year_inv (c := c) (un := un) (en := en) h1 (by omega) (by omega)
        exact ⟨a, b, h3, by omega⟩
    · obtain ⟨a, b, c'⟩ := second_inv (c := c) (fr := fr) (to := to) (en := en) h1 (by omega) (by omega)
      exact ⟨a, b, h3, by omega⟩
  · obtain ⟨a, b, c'⟩ := first_inv (c := c) (fr := fr) (en := en) h1 (by omega)
    exact ⟨a, b, h3, by omega⟩
def W_5read_12 (te : Nat → Int32) : Nat → Nat → (Nat → Int32) → (Nat → Int32) → (Nat → Int32) → (Int32) → (Int32) → (Int32) × (Nat → Int32) × (Nat → Int32) × (Nat → Int32) × (Int32) × (Int32)
  | 0, j12, y12_fr, y12_to, y12_un, y12_en, y12_sta => (nI (j12), y12_fr, y12_to, y12_un, y12_en, y12_sta)
  | f12 + 1, j12, y12_fr, y12_to, y12_un, y12_en, y12_sta => if (F_5takes (te j12) y12_fr y12_to y12_un y12_en y12_sta) = 0 then (nI (j12), F_5takes_fr (te j12) y12_fr y12_en y12_sta, F_5takes_to (te j12) y12_fr y12_to y12_en y12_sta, F_5takes_un (te j12) y12_un y12_en y12_sta, F_5takes_en (te j12) y12_en y12_sta, F_5takes_sta (te j12) y12_fr y12_to y12_un y12_en y12_sta) else W_5read_12 te f12 (j12 + 1) (F_5takes_fr (te j12) y12_fr y12_en y12_sta) (F_5takes_to (te j12) y12_fr y12_to y12_en y12_sta) (F_5takes_un (te j12) y12_un y12_en y12_sta) (F_5takes_en (te j12) y12_en y12_sta) (F_5takes_sta (te j12) y12_fr y12_to y12_un y12_en y12_sta)
def F_5read (q : Nat) (te : Nat → Int32) (fr : Nat → Int32) (to : Nat → Int32) (un : Nat → Int32) : Int32 := ((W_5read_12 te q 0 fr to un (nI (0)) (nI (0))).1)
def F_5read_fr (q : Nat) (te : Nat → Int32) (fr : Nat → Int32) (to : Nat → Int32) (un : Nat → Int32) : Nat → Int32 := ((W_5read_12 te q 0 fr to un (nI (0)) (nI (0))).2.1)
def F_5read_to (q : Nat) (te : Nat → Int32) (fr : Nat → Int32) (to : Nat → Int32) (un : Nat → Int32) : Nat → Int32 := ((W_5read_12 te q 0 fr to un (nI (0)) (nI (0))).2.2.1)
def F_5read_un (q : Nat) (te : Nat → Int32) (fr : Nat → Int32) (to : Nat → Int32) (un : Nat → Int32) : Nat → Int32 := ((W_5read_12 te q 0 fr to un (nI (0)) (nI (0))).2.2.2.1)
def F_5read_en (q : Nat) (te : Nat → Int32) (fr : Nat → Int32) (to : Nat → Int32) (un : Nat → Int32) : Int32 := ((W_5read_12 te q 0 fr to un (nI (0)) (nI (0))).2.2.2.2.1)
def F_5read_sta (q : Nat) (te : Nat → Int32) (fr : Nat → Int32) (to : Nat → Int32) (un : Nat → Int32) : Int32 := ((W_5read_12 te q 0 fr to un (nI (0)) (nI (0))).2.2.2.2.2)
def F_5firstError (q : Nat) (te : Nat → Int32) (fr : Nat → Int32) (to : Nat → Int32) (un : Nat → Int32) : Int32 := (F_5read q te fr to un)
def F_5firstError_fr (q : Nat) (te : Nat → Int32) (fr : Nat → Int32) (to : Nat → Int32) (un : Nat → Int32) : Nat → Int32 := (F_5read_fr q te fr to un)
def F_5firstError_to (q : Nat) (te : Nat → Int32) (fr : Nat → Int32) (to : Nat → Int32) (un : Nat → Int32) : Nat → Int32 := (F_5read_to q te fr to un)
def F_5firstError_un (q : Nat) (te : Nat → Int32) (fr : Nat → Int32) (to : Nat → Int32) (un : Nat → Int32) : Nat → Int32 := (F_5read_un q te fr to un)
def F_5firstError_en (q : Nat) (te : Nat → Int32) (fr : Nat → Int32) (to : Nat → Int32) (un : Nat → Int32) : Int32 := (F_5read_en q te fr to un)
def F_5firstError_sta (q : Nat) (te : Nat → Int32) (fr : Nat → Int32) (to : Nat → Int32) (un : Nat → Int32) : Int32 := (F_5read_sta q te fr to un)
def F_5firstError_th : Int32 := (nI (0))
