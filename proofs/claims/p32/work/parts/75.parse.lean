/-! THE TWO READERS, state by state: the cases are few, and the kernel goes through them -/
/-- the relation of the numbers in the states before the year -/
def pR (sta f t trd tv tdg tf : Int32) : Bool :=
  if sta = 0 then trd == 0 && tv == 0 && tdg == 0
  else if sta = nI 1 then decide (0 ≤ f) && decide (f < nI 10) && t == -1 && trd == 0 && tv == f && tdg == nI 1
  else if sta = nI 2 then decide (nI 10 ≤ f) && decide (f < nI 40) && t == -1 && trd == 0 && tv == f && tdg == nI 2
  else if sta = nI 3 then decide (0 ≤ f) && decide (f < nI 39) && t == -1 && trd == nI 1 && tv == 0 && tdg == 0 && tf == f
  else if sta = nI 4 then decide (0 ≤ f) && decide (f < nI 39) && decide (nI 1 ≤ t) && decide (t < nI 10) && trd == nI 1 && tv == t && tdg == nI 1 && tf == f
  else if sta = nI 5 then decide (0 ≤ f) && decide (f < t) && decide (nI 10 ≤ t) && decide (t < nI 40) && trd == nI 1 && tv == t && tdg == nI 2 && tf == f
  else false
/-- and at the colon -/
def pY (sta f t trd tv tdg tf tla : Int32) : Bool := sta == nI 6 && decide (0 ≤ f) && decide (f < nI 40) && (t == -1 || (decide (f < t) && decide (t < nI 40))) && trd == nI 2 && tv == 0 && tdg == 0 && tf == f && tla == (if t = -1 then f else t)
/-- a step before the year: both refuse, or both go on and agree -/
def pS (c : Nat) (sta f t trd tv tdg tf : Int32) : Bool :=
  if F_5takes (nI c) (fun _ => f) (fun _ => t) (fun _ => 0) 0 sta = 0 then F_1accepts c trd tv tdg tf == 0
  else !(F_1accepts c trd tv tdg tf == 0) &&
    (pR (F_5takes_sta (nI c) (fun _ => f) (fun _ => t) (fun _ => 0) 0 sta) (F_5takes_fr (nI c) (fun _ => f) 0 sta 0) (F_5takes_to (nI c) (fun _ => f) (fun _ => t) 0 sta 0) (F_1accepts_trd c trd tv tdg tf) (F_1accepts_tv c trd tv tdg tf) (F_1accepts_tdg c trd tv tdg tf) (F_1accepts_tf c trd tv tdg tf)
    || pY (F_5takes_sta (nI c) (fun _ => f) (fun _ => t) (fun _ => 0) 0 sta) (F_5takes_fr (nI c) (fun _ => f) 0 sta 0) (F_5takes_to (nI c) (fun _ => f) (fun _ => t) 0 sta 0) (F_1accepts_trd c trd tv tdg tf) (F_1accepts_tv c trd tv tdg tf) (F_1accepts_tdg c trd tv tdg tf) (F_1accepts_tf c trd tv tdg tf) (F_1accepts_tla c trd tv tdg tf (nI 99)))
theorem ps_1 : ∀ f : Fin 10, ∀ c : Fin 127, pS c.val (nI 1) (nI f.val) (-1) 0 (nI f.val) (nI 1) (nI 99) = true := by decide +kernel
theorem ps_2 : ∀ f : Fin 40, 10 ≤ f.val → ∀ c : Fin 127, pS c.val (nI 2) (nI f.val) (-1) 0 (nI f.val) (nI 2) (nI 99) = true := by decide +kernel
theorem ps_3 : ∀ f : Fin 39, ∀ c : Fin 127, pS c.val (nI 3) (nI f.val) (-1) (nI 1) 0 0 (nI f.val) = true := by decide +kernel
theorem ps_0 : ∀ c : Fin 127, pS c.val (nI 0) 0 0 0 0 0 (nI 99) = true := by decide +kernel
theorem ps_4 : ∀ f : Fin 39, ∀ t : Fin 10, 1 ≤ t.val → ∀ c : Fin 127, pS c.val (nI 4) (nI f.val) (nI t.val) (nI 1) (nI t.val) (nI 1) (nI f.val) = true := by decide +kernel
