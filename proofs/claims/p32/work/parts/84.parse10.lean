section PA4
theorem tp_keep {trd tdg : Int32} (h : F_1isComplete trd (tdg + nI 1) = 0) (c : Nat) (tp : Nat → Int32) (tn tv tf tla : Int32) : F_1accepts_tp c tp tn trd tv tdg tf tla = tp ∧ F_1accepts_tn c tn trd tv tdg tf = tn := by
  have e1 : F_1acceptsDigit_tp (nI c - nI 48) tp tn trd tv tdg tf tla = tp := by
    unfold F_1acceptsDigit_tp
    simp only [h, if_true]
    (repeat' split) <;> rfl
  have e2 : F_1acceptsDigit_tn (nI c - nI 48) tn trd tv tdg tf = tn := by
    unfold F_1acceptsDigit_tn
    simp only [h, if_true]
    (repeat' split) <;> rfl
  unfold F_1accepts_tp F_1accepts_tn
  rw [e1, e2]
  constructor <;> ((repeat' split) <;> rfl)
theorem tp_add {c : Nat} {tv tf : Int32} (h : F_1accepts c (nI 2) tv (nI 3) tf ≠ 0) (tp : Nat → Int32) (tn tla : Int32) : F_1accepts_tp c tp tn (nI 2) tv (nI 3) tf tla = F_1keepPart_tp tp tn (F_1accepts_tv c (nI 2) tv (nI 3) tf) tf tla ∧ F_1accepts_tn c tn (nI 2) tv (nI 3) tf = F_1keepPart_tn tn := by
  unfold F_1accepts at h
  unfold F_1accepts_tp F_1accepts_tn F_1accepts_tv
  by_cases q1 : c = 44
  · rw [if_pos q1] at h
    exact absurd rfl h
  rw [if_neg q1] at h
  by_cases q2 : c = 45
  · rw [if_pos q2] at h
    exact absurd rfl h
  rw [if_neg q2] at h
  by_cases q3 : c = 58
  · rw [if_pos q3] at h
    exact absurd rfl h
  rw [if_neg q3] at h
  by_cases q4 : c < 48
  · rw [if_pos q4] at h
    exact absurd rfl h
  rw [if_neg q4] at h
  by_cases q5 : 57 < c
  · rw [if_pos q5] at h
    exact absurd rfl h
  rw [if_neg q5] at h
  by_cases q6 : F_1acceptsDigit (nI c - nI 48) (nI 2) tv (nI 3) tf = 0
  · rw [if_pos q6] at h
    exact absurd rfl h
  simp only [if_neg q1, if_neg q2, if_neg q3, if_neg q4, if_neg q5, if_neg q6]
  generalize nI c - nI 48 = x at q6
  unfold F_1acceptsDigit at q6
  unfold F_1acceptsDigit_tp F_1acceptsDigit_tn F_1acceptsDigit_tv
  have e3 : ¬ (nI 3 ≤ 0) := by decide
  rw [if_neg e3] at q6
  simp only [if_neg e3]
  by_cases q7 : tv = 0
  · rw [if_pos q7] at q6
    exact absurd rfl q6
  rw [if_neg q7] at q6
  simp only [if_neg q7]
  by_cases q8 : F_1beginsNumber (tv * nI 10 + x) (F_1leastNumber (nI 2) tf) (F_1greatestNumber (nI 2)) = 0
  · rw [if_pos q8] at q6
    exact absurd rfl q6
  have e9 : ¬ (F_1isComplete (nI 2) (nI 3 + nI 1) = 0) := by decide
  simp only [if_neg q8, if_neg e9, and_self]
/-- a part read whole, on both sides -/
def Row (fr to un tp : Nat → Int32) (e : Nat) : Prop := tp (e * 3 + 0) = fr e ∧ tp (e * 3 + 1) = (if to e = -1 then fr e else to e) ∧ tp (e * 3 + 2) = un e ∧ 0 ≤ fr e ∧ fr e < nI 40 ∧ (to e = -1 ∨ (fr e < to e ∧ to e < nI 40))
def PS (fr to un : Nat → Int32) (en sta : Int32) (tp : Nat → Int32) (tn trd tv tdg tf tla : Int32) : Prop := ∃ n, en = nI n ∧ n < 10 ∧ (∀ e, e < n → Row fr to un tp e) ∧ ((sta ≠ nI 10 ∧ tn = nI n) ∨ (sta = nI 10 ∧ tn = nI (n + 1) ∧ Row fr to un tp n)) ∧ PA sta (fr n) (to n) (un n) trd tv tdg tf tla
theorem Row.cg {fr to un tp fr' to' un' tp' : Nat → Int32} {e : Nat} (h : Row fr to un tp e) (h1 : fr' e = fr e) (h2 : to' e = to e) (h3 : un' e = un e) (h4 : ∀ k, k < 3 → tp' (e * 3 + k) = tp (e * 3 + k)) : Row fr' to' un' tp' e := by
  unfold Row
  rw [h1, h2, h3, h4 0 (by omega), h4 1 (by omega), h4 2 (by omega)]
  exact h
theorem keep_at {tp : Nat → Int32} {n : Nat} (hn : n < 10) (tv tf tla : Int32) : F_1keepPart_tp tp (nI n) tv tf tla = upd (upd (upd tp (n * 3 + 0) tf) (n * 3 + 1) tla) (n * 3 + 2) tv := by
  have e : (nI n).toNatClampNeg = n := nI_clamp (by omega)
  unfold F_1keepPart_tp F_3putPP_tp
  rw [e, if_neg (by omega), if_neg (by omega), if_neg (by omega)]
theorem PA_10 {sta f t u trd tv tdg tf tla : Int32} (h : PA sta f t u trd tv tdg tf tla) : (F_1isComplete trd tdg = 0 ↔ sta ≠ nI 10) ∧ (sta = nI 10 → tv = u ∧ pW f t tf tla) := by
  rcases h with h | h | h
  · have : trd = 0 ∨ trd = nI 1 := by
      rcases pR_cases h with q | q | q | q | q | q <;> simp [q]
    have h10 : sta ≠ nI 10 := by
      rcases pR_cases h with q | q | q | q | q | q <;> (rw [q.1]; decide)
    refine ⟨⟨fun _ => h10, fun _ => ?_⟩, fun e => absurd e h10⟩
    rcases this with e | e <;> (rw [e]; rfl)
  · obtain ⟨rfl, rfl, rfl, rfl, hw⟩ := h
    refine ⟨⟨fun _ => by decide, fun _ => rfl⟩, fun e => absurd e (by decide)⟩
  · obtain ⟨⟨rfl, rfl, hz⟩, hw⟩ := h
    rcases hz with ⟨rfl, rfl, a, b⟩ | ⟨rfl, rfl, a, b⟩ | ⟨rfl, rfl, a, b⟩ | ⟨rfl, rfl, a, b⟩
    · exact ⟨⟨fun _ => by decide, fun _ => rfl⟩, fun e => absurd e (by decide)⟩
    · exact ⟨⟨fun _ => by decide, fun _ => rfl⟩, fun e => absurd e (by decide)⟩
    · exact ⟨⟨fun _ => by decide, fun _ => rfl⟩, fun e => absurd e (by decide)⟩
    · exact ⟨⟨fun e => absurd e (by decide), fun e => absurd rfl e⟩, fun _ => ⟨rfl, hw⟩⟩
end PA4
