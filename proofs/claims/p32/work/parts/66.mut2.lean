section MU2
variable {T : Nat → Nat → Int32} {z : Nat → Int32} {nv nc nr ne : Nat}
def zV (b0 b1 b2 b3 : Int32) (nv : Nat) (z : Nat → Int32) : Nat → Int32 := (upd (upd (upd (upd (upd z ((11 + (7 * nv)) + 0) b0) ((11 + (7 * nv)) + 1) b1) ((11 + (7 * nv)) + 2) b2) ((11 + (7 * nv)) + 3) b3) 0 (nI ((nv + 1))))
theorem zV_ne {b0 b1 b2 b3 : Int32} {i : Nat} (h0 : i ≠ 0) (h1 : i ≠ 11 + 7 * nv + 0) (h2 : i ≠ 11 + 7 * nv + 1) (h3 : i ≠ 11 + 7 * nv + 2) (h4 : i ≠ 11 + 7 * nv + 3) : zV b0 b1 b2 b3 nv z i = z i := by
  unfold zV
  rw [upd_ne h0, upd_ne h4, upd_ne h3, upd_ne h2, upd_ne h1]
theorem zV_at {b0 b1 b2 b3 : Int32} : zV b0 b1 b2 b3 nv z 0 = nI (nv + 1) ∧ zV b0 b1 b2 b3 nv z (11 + 7 * nv + 0) = b0 ∧ zV b0 b1 b2 b3 nv z (11 + 7 * nv + 1) = b1 ∧ zV b0 b1 b2 b3 nv z (11 + 7 * nv + 2) = b2 ∧ zV b0 b1 b2 b3 nv z (11 + 7 * nv + 3) = b3 := by
  unfold zV
  refine ⟨upd_eq, ?_, ?_, ?_, ?_⟩
  · rw [upd_ne (by omega), upd_ne (by omega), upd_ne (by omega), upd_ne (by omega), upd_eq]
  · rw [upd_ne (by omega), upd_ne (by omega), upd_ne (by omega), upd_eq]
  · rw [upd_ne (by omega), upd_ne (by omega), upd_eq]
  · rw [upd_ne (by omega), upd_eq]
theorem tV_at {b0 b1 b2 b3 : Int32} : F_0newVolume_T b0 b1 b2 b3 nv T 0 (nv * 7 + 0) = b0 ∧ F_0newVolume_T b0 b1 b2 b3 nv T 0 (nv * 7 + 1) = b1 ∧ F_0newVolume_T b0 b1 b2 b3 nv T 0 (nv * 7 + 2) = b2 ∧ F_0newVolume_T b0 b1 b2 b3 nv T 0 (nv * 7 + 3) = b3 ∧ F_0newVolume_T b0 b1 b2 b3 nv T 0 (nv * 7 + 5) = -1 ∧ (∀ i, i ≠ nv * 7 + 0 → i ≠ nv * 7 + 1 → i ≠ nv * 7 + 2 → i ≠ nv * 7 + 3 → i ≠ nv * 7 + 5 → F_0newVolume_T b0 b1 b2 b3 nv T 0 i = T 0 i) ∧ F_0newVolume_T b0 b1 b2 b3 nv T 5 = upd (T 5) 0 (T 5 0 + nI 1) ∧ ∀ j, j ≠ 0 → j ≠ 5 → F_0newVolume_T b0 b1 b2 b3 nv T j = T j := by
  unfold F_0newVolume_T
  rw [tu_ne (show 0 ≠ 5 by decide), tu_eq, tu_eq]
  refine ⟨?_, ?_, ?_, ?_, upd_eq, fun i h0 h1 h2 h3 h5 => ?_, rfl, fun j h0 h5 => ?_⟩
  · rw [upd_ne (by omega), upd_ne (by omega), upd_ne (by omega), upd_ne (by omega), upd_eq]
  · rw [upd_ne (by omega), upd_ne (by omega), upd_ne (by omega), upd_eq]
  · rw [upd_ne (by omega), upd_ne (by omega), upd_eq]
  · rw [upd_ne (by omega), upd_eq]
  · rw [upd_ne h5, upd_ne h3, upd_ne h2, upd_ne h1, upd_ne h0]
  · rw [tu_ne h5, tu_ne h0]
theorem mut_volume (h : RT T z nv nc) (w : WZ z nv nc nr ne) (h12 : nv < 12) {a0 a1 a2 a3 : Nat} (ha0 : a0 ≤ 19) (ha1 : a1 ≤ 3) (ha2 : a2 ≤ 40) (ha3 : a3 ≤ 3) : RT (F_0newVolume_T (nI a0) (nI a1) (nI a2) (nI a3) nv T) (zV (nI a0) (nI a1) (nI a2) (nI a3) nv z) (nv + 1) nc ∧ WZ (zV (nI a0) (nI a1) (nI a2) (nI a3) nv z) (nv + 1) nc nr ne := by
  have h4 := w.nc.2
  obtain ⟨z0, zb0, zb1, zb2, zb3⟩ := zV_at (z := z) (nv := nv) (b0 := nI a0) (b1 := nI a1) (b2 := nI a2) (b3 := nI a3)
  obtain ⟨t0, t1, t2, t3, t5, tn, t55, tj⟩ := tV_at (T := T) (nv := nv) (b0 := nI a0) (b1 := nI a1) (b2 := nI a2) (b3 := nI a3)
  have hi : ∀ {i : Nat}, i ≠ 0 → i ≠ 11 + 7 * nv + 0 → i ≠ 11 + 7 * nv + 1 → i ≠ 11 + 7 * nv + 2 → i ≠ 11 + 7 * nv + 3 → zV (nI a0) (nI a1) (nI a2) (nI a3) nv z i = z i := fun h0 h1 h2 h3 h4 => zV_ne h0 h1 h2 h3 h4
  generalize zV (nI a0) (nI a1) (nI a2) (nI a3) nv z = y at *
  generalize F_0newVolume_T (nI a0) (nI a1) (nI a2) (nI a3) nv T = Y at *
  have e4 : y (11 + 7 * nv + 4) = nI 0 := (hi (by omega) (by omega) (by omega) (by omega) (by omega)).trans (w.vol0 nv 4 (by omega) h12 (by omega))
  have e5 : y (11 + 7 * nv + 5) = nI 0 := (hi (by omega) (by omega) (by omega) (by omega) (by omega)).trans (w.vol0 nv 5 (by omega) h12 (by omega))
  have e6 : y (11 + 7 * nv + 6) = nI 0 := (hi (by omega) (by omega) (by omega) (by omega) (by omega)).trans (w.vol0 nv 6 (by omega) h12 (by omega))
  have hvo : ∀ c, c < 4 → vo y (nI c) (nv + 1) = vo z (nI c) nv := fun c hc => by
    show (if y (11 + 7 * nv + 5) - nI 1 = nI c then some nv else vo y (nI c) nv) = _
    rw [e5, if_neg (m1_ne (by omega))]
    exact vo_congr nv fun q hq => hi (by omega) (by omega) (by omega) (by omega) (by omega)
  constructor
  · refine ⟨fun k hk => ?_, fun v x hv hx h5 => ?_, fun v hv => ?_, fun v hv hv' => ?_, fun v k x hv hk hx => ?_, fun c hc => ⟨?_, ?_, ?_, ?_⟩, fun c hc => ?_, fun c hc hc' => ?_, fun r x hr hx => ?_, fun e x he hx => ?_⟩
    · rw [t55]
      by_cases q : k = 0
      · rw [q, upd_eq, z0, h.num 0 (by omega), w.nv.1, nI_add]
      · rw [upd_ne q, hi q (by omega) (by omega) (by omega) (by omega)]
        exact h.num k hk
    · by_cases q : v = nv
      · subst q
        by_cases x0 : x = 0
        · subst x0; rw [t0, zb0]
        · by_cases x1 : x = 1
          · subst x1; rw [t1, zb1]
          · by_cases x2 : x = 2
            · subst x2; rw [t2, zb2]
            · by_cases x3 : x = 3
              · subst x3; rw [t3, zb3]
              · rw [tn _ (by omega) (by omega) (by omega) (by omega) (by omega), hi (by omega) (by omega) (by omega) (by omega) (by omega)]
                exact h.vol v x hv hx h5
      · rw [tn _ (by omega) (by omega) (by omega) (by omega) (by omega), hi (by omega) (by omega) (by omega) (by omega) (by omega)]
        exact h.vol v x hv hx h5
    · by_cases q : v = nv
      · subst q
        rw [t5, e5]
        rfl
      · rw [tn _ (by omega) (by omega) (by omega) (by omega) (by omega), hi (by omega) (by omega) (by omega) (by omega) (by omega)]
        exact h.pl v (by omega)
    · rw [tn _ (by omega) (by omega) (by omega) (by omega) (by omega)]
      exact h.pl0 v (by omega) hv'
    · rw [tj 1 (by decide) (by decide), hi (by omega) (by omega) (by omega) (by omega) (by omega)]
      exact h.leaf v k x hv hk hx
    · rw [tj 2 (by decide) (by decide), hi (by omega) (by omega) (by omega) (by omega) (by omega)]; exact (h.cra c hc).1
    · rw [tj 2 (by decide) (by decide), hi (by omega) (by omega) (by omega) (by omega) (by omega)]; exact (h.cra c hc).2.1
    · rw [tj 2 (by decide) (by decide), hi (by omega) (by omega) (by omega) (by omega) (by omega)]; exact (h.cra c hc).2.2.1
    · rw [tj 2 (by decide) (by decide), hi (by omega) (by omega) (by omega) (by omega) (by omega)]; exact (h.cra c hc).2.2.2
    · rw [tj 2 (by decide) (by decide), hvo c (by omega)]; exact h.held c hc
    · rw [tj 2 (by decide) (by decide)]; exact h.held0 c hc hc'
    · rw [tj 3 (by decide) (by decide), hi (by omega) (by omega) (by omega) (by omega) (by omega)]; exact h.car r x hr hx
    · rw [tj 4 (by decide) (by decide), hi (by omega) (by omega) (by omega) (by omega) (by omega)]; exact h.ent e x he hx
  · have pl5 : ∀ v, v < nv + 1 → v ≠ nv → y (11 + 7 * v + 5) = z (11 + 7 * v + 5) := fun v hv q => hi (by omega) (by omega) (by omega) (by omega) (by omega)
    refine ⟨⟨⟨z0, by omega⟩, ⟨?_, h4⟩, ⟨?_, w.nr.2⟩, ⟨?_, w.ne.2⟩, fun v hv => ?_⟩, ?_, ⟨?_, ?_, ?_, ?_⟩, fun v hv => ?_, fun v v' hv hv' e e0 => ?_, fun v k hv hk => ?_, fun v x hv hv' hx => ?_, fun v k x hv hv' hk hx => ?_, fun c hc => ?_, fun c x hc hc' hx => ?_, fun r hr => ?_, fun r x hr hr' hx => ?_⟩
    · rw [hi (by omega) (by omega) (by omega) (by omega) (by omega)]; exact w.nc.1
    · rw [hi (by omega) (by omega) (by omega) (by omega) (by omega)]; exact w.nr.1
    · rw [hi (by omega) (by omega) (by omega) (by omega) (by omega)]; exact w.ne.1
    · unfold lv
      by_cases q : v = nv
      · rw [q, zb2, cl_nI (by omega)]
        exact ⟨rfl, ha2⟩
      · rw [hi (by omega) (by omega) (by omega) (by omega) (by omega)]
        exact w.lv v (by omega)
    · rw [hi (by omega) (by omega) (by omega) (by omega) (by omega)]; exact w.min
    · rw [hi (by omega) (by omega) (by omega) (by omega) (by omega)]; exact w.s0
    · rw [hi (by omega) (by omega) (by omega) (by omega) (by omega)]; exact w.s1
    · rw [hi (by omega) (by omega) (by omega) (by omega) (by omega)]; exact w.s2
    · rw [hi (by omega) (by omega) (by omega) (by omega) (by omega)]; exact w.s3
    · by_cases q : v = nv
      · subst q
        exact ⟨⟨a0, ha0, zb0⟩, ⟨a3, ha3, zb3⟩, ⟨0, by omega, e4⟩, ⟨0, by omega, e5⟩, ⟨0, by omega, e6⟩⟩
      · rw [hi (i := 11 + 7 * v + 0) (by omega) (by omega) (by omega) (by omega) (by omega), hi (i := 11 + 7 * v + 3) (by omega) (by omega) (by omega) (by omega) (by omega), hi (i := 11 + 7 * v + 4) (by omega) (by omega) (by omega) (by omega) (by omega), hi (i := 11 + 7 * v + 5) (by omega) (by omega) (by omega) (by omega) (by omega), hi (i := 11 + 7 * v + 6) (by omega) (by omega) (by omega) (by omega) (by omega)]
        exact w.vol v (by omega)
    · by_cases q : v = nv
      · rw [q] at e0
        exact absurd e5 e0
      · by_cases q' : v' = nv
        · rw [q', e5] at e
          exact absurd e e0
        · rw [pl5 v hv q, pl5 v' hv' q'] at e
          rw [pl5 v hv q] at e0
          exact w.uni v v' (by omega) (by omega) e e0
    · rw [hi (by omega) (by omega) (by omega) (by omega) (by omega)]; exact w.leaf v k hv hk
    · rw [hi (by omega) (by omega) (by omega) (by omega) (by omega)]; exact w.vol0 v x (by omega) hv' hx
    · rw [hi (by omega) (by omega) (by omega) (by omega) (by omega)]; exact w.leaf0 v k x (by omega) hv' hk hx
    · rw [hi (i := 95 + 4 * c + 1) (by omega) (by omega) (by omega) (by omega) (by omega), hi (i := 95 + 4 * c + 2) (by omega) (by omega) (by omega) (by omega) (by omega), hvo c (by omega)]
      exact w.cra c hc
    · rw [hi (by omega) (by omega) (by omega) (by omega) (by omega)]; exact w.cra0 c x hc hc' hx
    · rw [hi (i := 111 + 4 * r + 0) (by omega) (by omega) (by omega) (by omega) (by omega), hi (i := 111 + 4 * r + 1) (by omega) (by omega) (by omega) (by omega) (by omega)]; exact w.car r hr
    · rw [hi (by omega) (by omega) (by omega) (by omega) (by omega)]; exact w.car0 r x hr hr' hx
end MU2
