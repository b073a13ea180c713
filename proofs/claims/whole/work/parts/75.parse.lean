/-! THE TWO READERS, state by state: the cases are few, and the kernel goes through them -/
/-- the reference's step on numbers: what it says, the state after, first, last, year -/
def tk (c f t u sta : Int32) : Int32 × Int32 × Int32 × Int32 × Int32 := (F_5takes c (fun _ => f) (fun _ => t) (fun _ => u) 0 sta, F_5takes_sta c (fun _ => f) (fun _ => t) (fun _ => u) 0 sta, F_5takes_fr c (fun _ => f) 0 sta 0, F_5takes_to c (fun _ => f) (fun _ => t) 0 sta 0, F_5takes_un c (fun _ => u) 0 sta 0)
/-- the class's -/
def ac (c : Nat) (trd tv tdg tf tla : Int32) : Int32 × Int32 × Int32 × Int32 × Int32 × Int32 := (F_1accepts c trd tv tdg tf, F_1accepts_trd c trd tv tdg tf, F_1accepts_tv c trd tv tdg tf, F_1accepts_tdg c trd tv tdg tf, F_1accepts_tf c trd tv tdg tf, F_1accepts_tla c trd tv tdg tf tla)
theorem ps_0 : ∀ c : Fin 127, (F_5takes (nI c.val) (fun _ => 0) (fun _ => 0) (fun _ => 0) 0 (nI 0) = 0 ↔ F_1accepts c.val 0 0 0 0 = 0) := by decide +kernel
theorem ps_1 : ∀ f : Fin 10, ∀ c : Fin 127, (F_5takes (nI c.val) (fun _ => nI f.val) (fun _ => 0) (fun _ => 0) 0 (nI 1) = 0 ↔ F_1accepts c.val 0 (nI f.val) 1 0 = 0) := by decide +kernel
