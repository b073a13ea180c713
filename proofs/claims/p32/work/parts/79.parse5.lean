theorem ite_at {p : Prop} [Decidable p] (f g : Nat → Int32) (i : Nat) : (if p then f else g) i = if p then f i else g i := by split <;> rfl
theorem tk_un (c : Int32) (un : Nat → Int32) (en sta : Int32) : F_5takes_un c un en sta en.toNatClampNeg = F_5takes_un c (fun _ => un en.toNatClampNeg) 0 sta 0 := by
  unfold F_5takes_un F_5takesYear_un
  simp only [ite_at, upd_eq]
  rfl
theorem tk_fr (c : Int32) (fr : Nat → Int32) (en sta : Int32) : F_5takes_fr c fr en sta en.toNatClampNeg = F_5takes_fr c (fun _ => fr en.toNatClampNeg) 0 sta 0 := by
  unfold F_5takes_fr F_5takesFirst_fr
  simp only [ite_at, upd_eq]
  rfl
theorem tk_to (c : Int32) (fr to : Nat → Int32) (en sta : Int32) : F_5takes_to c fr to en sta en.toNatClampNeg = F_5takes_to c (fun _ => fr en.toNatClampNeg) (fun _ => to en.toNatClampNeg) 0 sta 0 := by
  unfold F_5takes_to F_5takesFirst_to F_5takesSecond_to
  simp only [ite_at, upd_eq]
  rfl
