/-- a whole number takes no digit more -/
theorem ac_10 : ∀ u : Fin 400, ∀ d : Fin 10, F_1acceptsDigit (nI d.val) (nI 2) (nI (1800 + u.val)) (nI 4) 0 = 0 := by decide +kernel
theorem ac_5 : ∀ f : Fin 39, ∀ t : Fin 40, 10 ≤ t.val → ∀ d : Fin 10, F_1acceptsDigit (nI d.val) (nI 1) (nI t.val) (nI 2) (nI f.val) = 0 := by decide +kernel
