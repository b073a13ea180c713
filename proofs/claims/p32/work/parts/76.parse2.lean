/-- a step in the year -/
def pU (c : Nat) (sta u tv tdg lo hi : Int32) : Bool :=
  if F_5takesYear (nI c) (fun _ => u) 0 sta = 0 then F_1accepts c (nI 2) tv tdg 0 == 0
  else !(F_1accepts c (nI 2) tv tdg 0 == 0) && F_5takesYear_sta (nI c) (fun _ => u) 0 sta == sta + nI 1 && F_5takesYear_un (nI c) (fun _ => u) 0 sta 0 == F_1accepts_tv c (nI 2) tv tdg 0 && F_1accepts_tdg c (nI 2) tv tdg 0 == tdg + nI 1 && F_1accepts_trd c (nI 2) tv tdg 0 == nI 2 && decide (lo ≤ F_1accepts_tv c (nI 2) tv tdg 0) && decide (F_1accepts_tv c (nI 2) tv tdg 0 ≤ hi)
theorem ps_6 : ∀ c : Fin 127, pU c.val (nI 6) 0 0 0 (nI 1) (nI 2) = true := by decide +kernel
theorem ps_7 : ∀ u : Fin 3, 1 ≤ u.val → ∀ c : Fin 127, pU c.val (nI 7) (nI u.val) (nI u.val) (nI 1) (nI 18) (nI 21) = true := by decide +kernel
theorem ps_8 : ∀ u : Fin 22, 18 ≤ u.val → ∀ c : Fin 127, pU c.val (nI 8) (nI u.val) (nI u.val) (nI 2) (nI 180) (nI 219) = true := by decide +kernel
theorem ps_9 : ∀ u : Fin 40, ∀ c : Fin 127, pU c.val (nI 9) (nI (180 + u.val)) (nI (180 + u.val)) (nI 3) (nI 1800) (nI 2199) = true := by decide +kernel
