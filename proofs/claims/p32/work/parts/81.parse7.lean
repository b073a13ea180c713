section PA1
theorem n_of {x : Int32} {b : Nat} (hb : b < 2147483648) (h0 : 0 ≤ x) (h1 : x < nI b) : ∃ k : Nat, k < b ∧ x = nI k := by
  rw [Int32.le_iff_toInt_le] at h0
  rw [Int32.lt_iff_toInt_lt, nI_toInt hb] at h1
  have z0 : (0 : Int32).toInt = 0 := rfl
  rw [z0] at h0
  refine ⟨x.toInt.toNat, by omega, ?_⟩
  rw [← Int32.toInt_inj, nI_toInt (by omega)]
  omega
theorem n_ofb {x : Int32} {a b : Nat} (ha : a < 2147483648) (hb : b < 2147483648) (h0 : nI a ≤ x) (h1 : x < nI b) : ∃ k : Nat, a ≤ k ∧ k < b ∧ x = nI k := by
  rw [Int32.le_iff_toInt_le, nI_toInt ha] at h0
  rw [Int32.lt_iff_toInt_lt, nI_toInt hb] at h1
  refine ⟨x.toInt.toNat, by omega, by omega, ?_⟩
  rw [← Int32.toInt_inj, nI_toInt (by omega)]
  omega
/-- the part's leaves, as the class keeps them from the colon on -/
def pW (f t tf tla : Int32) : Prop := 0 ≤ f ∧ f < nI 40 ∧ (t = -1 ∨ (f < t ∧ t < nI 40)) ∧ tf = f ∧ tla = (if t = -1 then f else t)
/-- in the year -/
def pZ (sta u trd tv tdg : Int32) : Prop := trd = nI 2 ∧ tv = u ∧ ((sta = nI 7 ∧ tdg = nI 1 ∧ nI 1 ≤ u ∧ u ≤ nI 2) ∨ (sta = nI 8 ∧ tdg = nI 2 ∧ nI 18 ≤ u ∧ u ≤ nI 21) ∨ (sta = nI 9 ∧ tdg = nI 3 ∧ nI 180 ≤ u ∧ u ≤ nI 219) ∨ (sta = nI 10 ∧ tdg = nI 4 ∧ nI 1800 ≤ u ∧ u ≤ nI 2199))
def PA (sta f t u trd tv tdg tf tla : Int32) : Prop := pR sta f t trd tv tdg tf = true ∨ (sta = nI 6 ∧ trd = nI 2 ∧ tv = 0 ∧ tdg = 0 ∧ pW f t tf tla) ∨ (pZ sta u trd tv tdg ∧ pW f t tf tla)
theorem pY_iff {sta f t trd tv tdg tf tla : Int32} (h : pY sta f t trd tv tdg tf tla = true) : sta = nI 6 ∧ trd = nI 2 ∧ tv = 0 ∧ tdg = 0 ∧ pW f t tf tla := by
  unfold pY at h
  simp only [Bool.and_eq_true, Bool.or_eq_true, decide_eq_true_eq, beq_iff_eq] at h
  obtain ⟨⟨⟨⟨⟨⟨⟨⟨h1, h2⟩, h3⟩, h4⟩, h5⟩, h6⟩, h7⟩, h8⟩, h9⟩ := h
  exact ⟨h1, h5, h6, h7, h2, h3, h4, h8, h9⟩
theorem pW_99 {f t tla : Int32} (h : pW f t (nI 99) tla) : False := by
  obtain ⟨h1, h2, h3, h4, h5⟩ := h
  rw [← h4] at h2
  exact absurd h2 (by decide)
theorem pW_99' {f t tf : Int32} (h : pW f t tf (nI 99)) : False := by
  obtain ⟨h1, h2, h3, h4, h5⟩ := h
  split at h5
  · rw [← h5] at h2
    exact absurd h2 (by decide)
  · rcases h3 with h3 | h3
    · contradiction
    · rw [← h5] at h3
      exact absurd h3.2 (by decide)
theorem pR_cases {sta f t trd tv tdg tf : Int32} (h : pR sta f t trd tv tdg tf = true) : (sta = nI 0 ∧ trd = 0 ∧ tv = 0 ∧ tdg = 0) ∨ (sta = nI 1 ∧ 0 ≤ f ∧ f < nI 10 ∧ t = -1 ∧ trd = 0 ∧ tv = f ∧ tdg = nI 1) ∨ (sta = nI 2 ∧ nI 10 ≤ f ∧ f < nI 40 ∧ t = -1 ∧ trd = 0 ∧ tv = f ∧ tdg = nI 2) ∨ (sta = nI 3 ∧ 0 ≤ f ∧ f < nI 39 ∧ t = -1 ∧ trd = nI 1 ∧ tv = 0 ∧ tdg = 0 ∧ tf = f) ∨ (sta = nI 4 ∧ 0 ≤ f ∧ f < nI 39 ∧ nI 1 ≤ t ∧ t < nI 10 ∧ trd = nI 1 ∧ tv = t ∧ tdg = nI 1 ∧ tf = f) ∨ (sta = nI 5 ∧ 0 ≤ f ∧ f < t ∧ nI 10 ≤ t ∧ t < nI 40 ∧ trd = nI 1 ∧ tv = t ∧ tdg = nI 2 ∧ tf = f) := by
  unfold pR at h
  by_cases q0 : sta = 0
  · rw [if_pos q0] at h
    simp only [Bool.and_eq_true, beq_iff_eq] at h
    exact Or.inl ⟨q0, h.1.1, h.1.2, h.2⟩
  rw [if_neg q0] at h
  by_cases q1 : sta = nI 1
  · rw [if_pos q1] at h
    simp only [Bool.and_eq_true, decide_eq_true_eq, beq_iff_eq] at h
    obtain ⟨⟨⟨⟨⟨h1, h2⟩, h3⟩, h4⟩, h5⟩, h6⟩ := h
    exact Or.inr (Or.inl ⟨q1, h1, h2, h3, h4, h5, h6⟩)
  rw [if_neg q1] at h
  by_cases q2 : sta = nI 2
  · rw [if_pos q2] at h
    simp only [Bool.and_eq_true, decide_eq_true_eq, beq_iff_eq] at h
    obtain ⟨⟨⟨⟨⟨h1, h2⟩, h3⟩, h4⟩, h5⟩, h6⟩ := h
    exact Or.inr (Or.inr (Or.inl ⟨q2, h1, h2, h3, h4, h5, h6⟩))
  rw [if_neg q2] at h
  by_cases q3 : sta = nI 3
  · rw [if_pos q3] at h
    simp only [Bool.and_eq_true, decide_eq_true_eq, beq_iff_eq] at h
    obtain ⟨⟨⟨⟨⟨⟨h1, h2⟩, h3⟩, h4⟩, h5⟩, h6⟩, h7⟩ := h
    exact Or.inr (Or.inr (Or.inr (Or.inl ⟨q3, h1, h2, h3, h4, h5, h6, h7⟩)))
  rw [if_neg q3] at h
  by_cases q4 : sta = nI 4
  · rw [if_pos q4] at h
    simp only [Bool.and_eq_true, decide_eq_true_eq, beq_iff_eq] at h
    obtain ⟨⟨⟨⟨⟨⟨⟨h1, h2⟩, h3⟩, h4⟩, h5⟩, h6⟩, h7⟩, h8⟩ := h
    exact Or.inr (Or.inr (Or.inr (Or.inr (Or.inl ⟨q4, h1, h2, h3, h4, h5, h6, h7, h8⟩))))
  rw [if_neg q4] at h
  by_cases q5 : sta = nI 5
  · rw [if_pos q5] at h
    simp only [Bool.and_eq_true, decide_eq_true_eq, beq_iff_eq] at h
    obtain ⟨⟨⟨⟨⟨⟨⟨h1, h2⟩, h3⟩, h4⟩, h5⟩, h6⟩, h7⟩, h8⟩ := h
    exact Or.inr (Or.inr (Or.inr (Or.inr (Or.inr ⟨q5, h1, h2, h3, h4, h5, h6, h7, h8⟩))))
  rw [if_neg q5] at h
  exact absurd h (by decide)
theorem pR_tf {sta f t trd tv tdg : Int32} (h : pR sta f t trd tv tdg (nI 99) = true) (x : Int32) : pR sta f t trd tv tdg x = true := by
  rcases pR_cases h with q | q | q | q | q | q
  · obtain ⟨q1, -⟩ := q
    subst q1
    exact h
  · obtain ⟨q1, -⟩ := q
    subst q1
    exact h
  · obtain ⟨q1, -⟩ := q
    subst q1
    exact h
  · obtain ⟨-, -, q2, -, -, -, -, q3⟩ := q
    rw [← q3] at q2
    exact absurd q2 (by decide)
  · obtain ⟨-, -, q2, -, -, -, -, -, q3⟩ := q
    rw [← q3] at q2
    exact absurd q2 (by decide)
  · obtain ⟨-, -, q2, -, q4, -, -, -, q3⟩ := q
    rw [← q3] at q2
    exact absurd (Int32.lt_trans q2 q4) (by decide)
theorem tf_ind (c : Nat) (tv tdg tf : Int32) : F_1accepts_tf c 0 tv tdg tf = tf ∨ ∀ x, F_1accepts_tf c 0 tv tdg x = F_1accepts_tf c 0 tv tdg tf := by
  unfold F_1accepts_tf F_1acceptsDash_tf F_1acceptsColon_tf
  simp only [ln0]
  (repeat' split) <;> first | exact Or.inl rfl | exact Or.inr (fun _ => rfl) | contradiction
theorem tla_ind (c : Nat) (trd tv tdg tf tla : Int32) : F_1accepts_tla c trd tv tdg tf tla = tla ∨ ∀ x, F_1accepts_tla c trd tv tdg tf x = F_1accepts_tla c trd tv tdg tf tla := by
  unfold F_1accepts_tla F_1acceptsColon_tla
  (repeat' split) <;> first | exact Or.inl rfl | exact Or.inr (fun _ => rfl) | contradiction
end PA1
