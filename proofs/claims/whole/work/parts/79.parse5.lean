theorem ite_at {p : Prop} [Decidable p] (f g : Nat → Int32) (i : Nat) : (if p then f else g) i = if p then f i else g i := by split <;> rfl
theorem tk_un (c : Int32) (un : Nat → Int32) (en sta : Int32) : F_5takes_un c un en sta en.toNatClampNeg = F_5takes_un c (fun _ => un en.toNatClampNeg) 0 sta 0 := by
  unfold F_5takes_un F_5takesYear_un
  simp only [ite_at, upd_eq]
  rfl
