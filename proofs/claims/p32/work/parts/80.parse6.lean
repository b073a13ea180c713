/-! what the class's step doesn't look at -/
theorem ln0 (tf : Int32) : F_1leastNumber 0 tf = nI 0 := rfl
theorem ln2 (tf : Int32) : F_1leastNumber (nI 2) tf = nI 1800 := rfl
theorem ac_0 (c : Nat) (tv tdg tf : Int32) : F_1accepts c 0 tv tdg tf = F_1accepts c 0 tv tdg 0 ∧ F_1accepts_trd c 0 tv tdg tf = F_1accepts_trd c 0 tv tdg 0 ∧ F_1accepts_tv c 0 tv tdg tf = F_1accepts_tv c 0 tv tdg 0 ∧ F_1accepts_tdg c 0 tv tdg tf = F_1accepts_tdg c 0 tv tdg 0 := by
  unfold F_1accepts F_1accepts_trd F_1accepts_tv F_1accepts_tdg F_1acceptsColon F_1acceptsColon_trd F_1acceptsColon_tv F_1acceptsColon_tdg F_1acceptsDigit F_1acceptsDigit_tv F_1acceptsDigit_tdg
  simp only [ln0]
  refine ⟨?_, ?_, ?_, ?_⟩ <;> first | trivial | rfl
theorem ac_2 (c : Nat) (tv tdg tf : Int32) : F_1accepts c (nI 2) tv tdg tf = F_1accepts c (nI 2) tv tdg 0 ∧ F_1accepts_trd c (nI 2) tv tdg tf = F_1accepts_trd c (nI 2) tv tdg 0 ∧ F_1accepts_tv c (nI 2) tv tdg tf = F_1accepts_tv c (nI 2) tv tdg 0 ∧ F_1accepts_tdg c (nI 2) tv tdg tf = F_1accepts_tdg c (nI 2) tv tdg 0 := by
  unfold F_1accepts F_1accepts_trd F_1accepts_tv F_1accepts_tdg F_1acceptsColon F_1acceptsColon_trd F_1acceptsColon_tv F_1acceptsColon_tdg F_1acceptsDigit F_1acceptsDigit_tv F_1acceptsDigit_tdg
  simp only [ln2]
  refine ⟨?_, ?_, ?_, ?_⟩ <;> first | trivial | rfl
