section GO3
variable {T : Nat → Nat → Int32} {z : Nat → Int32} {nv nc nr ne v r c : Nat}
theorem zG_pl {P g W : Int32} (hv : v < 12) (hr : r < 3) (hc : c < 4) (he : ne < 60) : zG v r ne c P g W z (11 + 7 * v + 5) = P ∧ ∀ q, q < 12 → q ≠ v → zG v r ne c P g W z (11 + 7 * q + 5) = z (11 + 7 * q + 5) := by
  obtain ⟨-, -, zp, -, -, -, hi⟩ := zG_at (z := z) (P := P) (g := g) (W := W) hv hr hc he
  exact ⟨zp, fun q hq e => hi _ (by omega) (by omega) (by omega) (by omega) (by omega) (by omega)⟩
theorem mut_bring (h : RT T z nv nc) (w : WZ z nv nc nr ne) (hv : v < nv) (hr : r < nr) (hc : c < nc) (he : ne < 60) (hpl : z (11 + 7 * v + 5) = nI 0) (hno : vo z (nI c) nv = none) : F_0startBringing v c r T = wayZ z v r ∧ RT (F_0startBringing_T v c r ne T) (F_5goesA_z v c r ne z) nv nc ∧ WZ (F_5goesA_z v c r ne z) nv nc nr (ne + 1) := by
  have h12 := w.nv.2
  have h4 := w.nc.2
  have h3 := w.nr.2
  obtain ⟨zp, zq⟩ := zG_pl (z := z) (P := nI (c + 1)) (g := nI c) (W := wayZ z v r) (show v < 12 by omega) (show r < 3 by omega) (show c < 4 by omega) he
  have hn := vo_no nv hno
  have := mut_goes (hT := nI v) (p := c + 1) (g := nI c) h w hv hr hc he (by omega) (by
    rw [vo_eq nv hv (by rw [zp, nI_p1]) fun q hq e => by
      rw [zq q (by omega) e]
      exact hn q hq]
    rfl) (fun c' hc' e => vo_congr2 nv fun q hq => by
    by_cases p : q = v
    · rw [p, zp, hpl, nI_p1]
      exact ⟨fun x => absurd ((nI_eq (by omega) (by omega)).mp x).symm e, fun x => absurd x (m1_ne (by omega))⟩
    · rw [zq q (by omega) p]) (fun v' hv' e _ x => hn v' hv' (by rw [x, nI_p1]))
  rw [nI_p1] at this
  exact this
theorem mut_back (h : RT T z nv nc) (w : WZ z nv nc nr ne) (hv : v < nv) (hr : r < nr) (hc : c < nc) (he : ne < 60) (hpl : z (11 + 7 * v + 5) = nI (c + 1)) : F_0startTakingBack v r c T = wayZ z v r ∧ RT (F_0startTakingBack_T v r ne c T) (F_5goesB_z v r ne c z) nv nc ∧ WZ (F_5goesB_z v r ne c z) nv nc nr (ne + 1) := by
  have h12 := w.nv.2
  have h4 := w.nc.2
  have h3 := w.nr.2
  obtain ⟨zp, zq⟩ := zG_pl (z := z) (P := nI 0) (g := -1) (W := wayZ z v r) (show v < 12 by omega) (show r < 3 by omega) (show c < 4 by omega) he
  have hun : ∀ q, q < nv → q ≠ v → ¬ z (11 + 7 * q + 5) - nI 1 = nI c := fun q hq e x => by
    obtain ⟨a, ha, ea⟩ := (w.vol q hq).2.2.2.1
    have e2 : z (11 + 7 * q + 5) = z (11 + 7 * v + 5) := by
      rw [ea] at x
      rw [ea, hpl]
      cases a with
      | zero => exact absurd x (m1_ne (by omega))
      | succ a =>
        rw [nI_p1] at x
        rw [(nI_eq (by omega) (by omega)).mp x]
    exact e (w.uni q v hq hv e2 (by
      rw [e2, hpl]
      intro x
      have := (nI_eq (a := c + 1) (b := 0) (by omega) (by omega)).mp x
      omega))
  have := mut_goes (hT := -1) (p := 0) (g := -1) h w hv hr hc he (by omega) (by
    rw [vo_none fun q hq x => by
      by_cases p : q = v
      · rw [p, zp] at x
        exact m1_ne (by omega) x
      · rw [zq q (by omega) p] at x
        exact hun q hq p x]
    rfl) (fun c' hc' e => vo_congr2 nv fun q hq => by
    by_cases p : q = v
    · rw [p, zp, hpl, nI_p1]
      exact ⟨fun x => absurd x (m1_ne (by omega)), fun x => absurd ((nI_eq (by omega) (by omega)).mp x).symm e⟩
    · rw [zq q (by omega) p]) (fun v' hv' e x => absurd rfl x)
  exact this
end GO3
