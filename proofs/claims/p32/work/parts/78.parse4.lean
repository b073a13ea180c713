/-! the reference's step reads and writes its own entry only -/
theorem tk_c (c : Int32) (fr to un : Nat → Int32) (en sta : Int32) : F_5takes c fr to un en sta = F_5takes c (fun _ => fr en.toNatClampNeg) (fun _ => to en.toNatClampNeg) (fun _ => un en.toNatClampNeg) 0 sta := rfl
theorem tk_s (c : Int32) (fr to un : Nat → Int32) (en sta : Int32) : F_5takes_sta c fr to un en sta = F_5takes_sta c (fun _ => fr en.toNatClampNeg) (fun _ => to en.toNatClampNeg) (fun _ => un en.toNatClampNeg) 0 sta := rfl
theorem tk_fr_ne (c : Int32) (fr : Nat → Int32) (en sta : Int32) (i : Nat) (h : i ≠ en.toNatClampNeg) : F_5takes_fr c fr en sta i = fr i := by
  unfold F_5takes_fr F_5takesFirst_fr
  (repeat' split) <;> first | rfl | exact upd_ne h
theorem tk_to_ne (c : Int32) (fr to : Nat → Int32) (en sta : Int32) (i : Nat) (h : i ≠ en.toNatClampNeg) : F_5takes_to c fr to en sta i = to i := by
  unfold F_5takes_to F_5takesFirst_to F_5takesSecond_to
  (repeat' split) <;> first | rfl | exact upd_ne h
theorem tk_un_ne (c : Int32) (un : Nat → Int32) (en sta : Int32) (i : Nat) (h : i ≠ en.toNatClampNeg) : F_5takes_un c un en sta i = un i := by
  unfold F_5takes_un F_5takesYear_un
  (repeat' split) <;> first | rfl | exact upd_ne h
