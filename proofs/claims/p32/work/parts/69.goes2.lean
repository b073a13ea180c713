section GO2
variable {T : Nat → Nat → Int32} {z : Nat → Int32} {nv nc nr ne v r c : Nat} {g : Int32}
theorem way_nI (w : WZ z nv nc nr ne) (hv : v < nv) (hr : r < 3) : ∃ a : Nat, 1 ≤ a ∧ a ≤ 96 ∧ wayZ z v r = nI a := by
  obtain ⟨s, hs, es⟩ := w.s3
  obtain ⟨p, hp, ep⟩ := (w.car r hr).1
  obtain ⟨q, hq, eq⟩ := (w.vol v hv).1
  unfold wayZ
  rw [es, ep, eq]
  have key : ∃ d : Nat, d ≤ 19 ∧ (if nI p - nI q < 0 then -(nI p - nI q) else nI p - nI q) = nI d := by
    by_cases h : q ≤ p
    · rw [pk_sub h, if_neg (fun e => by
        have := (nI_ltI (a := p - q) (b := 0) (by omega) (by omega)).mp e
        omega)]
      exact ⟨p - q, by omega, rfl⟩
    · have hlt : nI p - nI q < 0 := by
        rw [Int32.lt_iff_toInt_lt, pk_sub_toInt (by omega) (by omega)]
        show _ < (0 : Int)
        omega
      rw [if_pos hlt, Int32.neg_sub, pk_sub (by omega)]
      exact ⟨q - p, by omega, rfl⟩
  obtain ⟨d, hd, ed⟩ := key
  rw [ed, pk_mul, nI_add]
  have : s * d ≤ 95 := Nat.le_trans (Nat.mul_le_mul hs hd) (by omega)
  exact ⟨s * d + 1, by omega, by omega, rfl⟩
theorem mut_goes (h : RT T z nv nc) (w : WZ z nv nc nr ne) (hv : v < nv) (hr : r < nr) (hc : c < nc) (he : ne < 60) {p : Nat} (hp : p ≤ nc) {hT : Int32} (hh : hT = oI (vo (zG v r ne c (nI p) g (wayZ z v r) z) (nI c) nv)) (ho : ∀ c', c' < nc → c' ≠ c → vo (zG v r ne c (nI p) g (wayZ z v r) z) (nI c') nv = vo z (nI c') nv) (hu : ∀ v', v' < nv → v' ≠ v → ¬ nI p = nI 0 → ¬ z (11 + 7 * v' + 5) = nI p) :
    F_0startWay v r (tu (tu T 0 (upd (T 0) ((v * 7) + 5) (nI p - nI 1))) 2 (upd (upd (T 2) ((c * 5) + 2) hT) ((c * 5) + 3) (nI (0)))) = wayZ z v r ∧
    RT (F_0startWay_T v g r ne (tu (tu T 0 (upd (T 0) ((v * 7) + 5) (nI p - nI 1))) 2 (upd (upd (T 2) ((c * 5) + 2) hT) ((c * 5) + 3) (nI (0))))) (zG v r ne c (nI p) g (wayZ z v r) z) nv nc ∧ WZ (zG v r ne c (nI p) g (wayZ z v r) z) nv nc nr (ne + 1) := by
  have h12 := w.nv.2
  have h4 := w.nc.2
  have h3 := w.nr.2
  obtain ⟨a, ha1, ha, eW⟩ := way_nI (r := r) w hv (by omega)
  obtain ⟨z5, zc2, zp, zw, ⟨zr0, zr1, zr2, zr3⟩, ⟨zn0, zn1, zn2, zn3, zn4⟩, hi'⟩ := zG_at (z := z) (P := nI p) (g := g) (W := wayZ z v r) (show v < 12 by omega) (show r < 3 by omega) (show c < 4 by omega) he
  obtain ⟨tw, t0, t1, t2, t3, t4, t5⟩ := tG_at (T := T) (ne := ne) (v := v) (c := c) (g := g) (W := wayZ z v r) (pT := nI p - nI 1) (hT := hT) (show r < 3 by omega) (e_way h (by omega) (by omega))
  refine ⟨tw, ?_⟩
  have hi : ∀ {i : Nat}, i ≠ 5 → i ≠ 95 + 4 * c + 2 → i ≠ 11 + 7 * v + 5 → i ≠ 11 + 7 * v + 6 → (∀ k, k < 4 → i ≠ 111 + 4 * r + k) → (∀ k, k < 5 → i ≠ 123 + 5 * ne + k) → zG v r ne c (nI p) g (wayZ z v r) z i = z i := fun h1 h2 h3 h4 h5 h6 => hi' _ h1 h2 h3 h4 h5 h6
  clear hi' tw
  generalize zG v r ne c (nI p) g (wayZ z v r) z = y at *
  generalize F_0startWay_T v g r ne (tu (tu T 0 (upd (T 0) ((v * 7) + 5) (nI p - nI 1))) 2 (upd (upd (T 2) ((c * 5) + 2) hT) ((c * 5) + 3) (nI (0)))) = Y at *
  constructor
  · refine ⟨fun k hk => ?_, fun v' x hv' hx h5 => ?_, fun v' hv' => ?_, fun v' hv' hv2 => ?_, fun v' k x hv' hk hx => ?_, fun c' hc' => ⟨?_, ?_, ?_, ?_⟩, fun c' hc' => ?_, fun c' hc1 hc' => ?_, fun r' x hr' hx => ?_, fun e x he' hx => ?_⟩
    · rw [t5]
      by_cases q : k = 5
      · rw [q, upd_eq, z5, h.num 5 (by omega), w.ne.1, nI_add]
      · rw [upd_ne q, hi q (by omega) (by omega) (by omega) (by omega) (by omega)]
        exact h.num k hk
    · rw [t0]
      by_cases q : v' = v ∧ x = 6
      · rw [q.1, q.2, upd_eq, zw]
      · rw [upd_ne (by omega), upd_ne (by omega), hi (by omega) (by omega) (by omega) (by omega) (by omega) (by omega)]
        exact h.vol v' x hv' hx h5
    · rw [t0]
      by_cases q : v' = v
      · rw [q, upd_ne (by omega), upd_eq, zp]
      · rw [upd_ne (by omega), upd_ne (by omega), hi (by omega) (by omega) (by omega) (by omega) (by omega) (by omega)]
        exact h.pl v' hv'
    · rw [t0, upd_ne (by omega), upd_ne (by omega)]
      exact h.pl0 v' hv' hv2
    · rw [t1, hi (by omega) (by omega) (by omega) (by omega) (by omega) (by omega)]; exact h.leaf v' k x hv' hk hx
    · rw [t2, upd_ne (by omega), upd_ne (by omega), hi (by omega) (by omega) (by omega) (by omega) (by omega) (by omega)]; exact (h.cra c' hc').1
    · rw [t2, upd_ne (by omega), upd_ne (by omega), hi (by omega) (by omega) (by omega) (by omega) (by omega) (by omega)]; exact (h.cra c' hc').2.1
    · rw [t2]
      by_cases q : c' = c
      · rw [q, upd_eq, zc2]
      · rw [upd_ne (by omega), upd_ne (by omega), hi (by omega) (by omega) (by omega) (by omega) (by omega) (by omega)]; exact (h.cra c' hc').2.2.1
    · rw [t2, upd_ne (by omega), upd_ne (by omega), hi (by omega) (by omega) (by omega) (by omega) (by omega) (by omega)]; exact (h.cra c' hc').2.2.2
    · rw [t2, upd_ne (by omega)]
      by_cases q : c' = c
      · rw [q, upd_eq, hh]
      · rw [upd_ne (by omega), ho c' hc' q]; exact h.held c' hc'
    · rw [t2, upd_ne (by omega), upd_ne (by omega)]; exact h.held0 c' hc1 hc'
    · rw [t3]
      by_cases q : r' = r
      · subst q
        obtain rfl | rfl | rfl | rfl : x = 0 ∨ x = 1 ∨ x = 2 ∨ x = 3 := by omega
        · rw [upd_ne (by omega), upd_ne (by omega), upd_ne (by omega), upd_eq, zr0, h.vol v 0 (by omega) (by omega) (by omega)]
        · rw [upd_ne (by omega), upd_ne (by omega), upd_eq, zr1]
        · rw [upd_ne (by omega), upd_eq, zr2, h.car r' 2 hr' (by omega)]
        · rw [upd_eq, zr3, h.car r' 3 hr' (by omega)]
      · rw [upd_ne (by omega), upd_ne (by omega), upd_ne (by omega), upd_ne (by omega), hi (by omega) (by omega) (by omega) (by omega) (by omega) (by omega)]
        exact h.car r' x hr' hx
    · rw [t4]
      by_cases q : e = ne
      · subst q
        obtain rfl | rfl | rfl | rfl | rfl : x = 0 ∨ x = 1 ∨ x = 2 ∨ x = 3 ∨ x = 4 := by omega
        · rw [upd_ne (by omega), upd_ne (by omega), upd_ne (by omega), upd_ne (by omega), upd_eq, zn0, h.num 3 (by omega)]
        · rw [upd_ne (by omega), upd_ne (by omega), upd_ne (by omega), upd_eq, zn1]
        · rw [upd_ne (by omega), upd_ne (by omega), upd_eq, zn2]
        · rw [upd_ne (by omega), upd_eq, zn3]
        · rw [upd_eq, zn4]
      · rw [upd_ne (by omega), upd_ne (by omega), upd_ne (by omega), upd_ne (by omega), upd_ne (by omega), hi (by omega) (by omega) (by omega) (by omega) (by omega) (by omega)]
        exact h.ent e x he' hx
  · refine ⟨⟨⟨?_, h12⟩, ⟨?_, h4⟩, ⟨?_, h3⟩, ⟨z5, by omega⟩, fun v' hv' => ?_⟩, ?_, ⟨?_, ?_, ?_, ?_⟩, fun v' hv' => ⟨?_, ?_, ?_, ?_, ?_⟩, fun v1 v2 hv1 hv2 e e0 => ?_, fun v' k hv' hk => ?_, fun v' x hv1 hv' hx => ?_, fun v' k x hv1 hv' hk hx => ?_, fun c' hc' => ?_, fun c' x hc1 hc' hx => ?_, fun r' hr' => ?_, fun r' x hr1 hr' hx => ?_⟩
    · rw [hi (by omega) (by omega) (by omega) (by omega) (by omega) (by omega)]; exact w.nv.1
    · rw [hi (by omega) (by omega) (by omega) (by omega) (by omega) (by omega)]; exact w.nc.1
    · rw [hi (by omega) (by omega) (by omega) (by omega) (by omega) (by omega)]; exact w.nr.1
    · unfold lv
      rw [hi (by omega) (by omega) (by omega) (by omega) (by omega) (by omega)]
      exact w.lv v' hv'
    · rw [hi (by omega) (by omega) (by omega) (by omega) (by omega) (by omega)]; exact w.min
    · rw [hi (by omega) (by omega) (by omega) (by omega) (by omega) (by omega)]; exact w.s0
    · rw [hi (by omega) (by omega) (by omega) (by omega) (by omega) (by omega)]; exact w.s1
    · rw [hi (by omega) (by omega) (by omega) (by omega) (by omega) (by omega)]; exact w.s2
    · rw [hi (by omega) (by omega) (by omega) (by omega) (by omega) (by omega)]; exact w.s3
    · rw [hi (by omega) (by omega) (by omega) (by omega) (by omega) (by omega)]; exact (w.vol v' hv').1
    · rw [hi (by omega) (by omega) (by omega) (by omega) (by omega) (by omega)]; exact (w.vol v' hv').2.1
    · rw [hi (by omega) (by omega) (by omega) (by omega) (by omega) (by omega)]; exact (w.vol v' hv').2.2.1
    · by_cases q : v' = v
      · rw [q]
        exact ⟨p, hp, zp⟩
      · rw [hi (by omega) (by omega) (by omega) (by omega) (by omega) (by omega)]; exact (w.vol v' hv').2.2.2.1
    · by_cases q : v' = v
      · rw [q]
        exact ⟨a, ha, zw.trans eW⟩
      · rw [hi (by omega) (by omega) (by omega) (by omega) (by omega) (by omega)]; exact (w.vol v' hv').2.2.2.2
    · have hpl : ∀ v', v' < nv → v' ≠ v → y (11 + 7 * v' + 5) = z (11 + 7 * v' + 5) := fun v' hv' q => hi (by omega) (by omega) (by omega) (by omega) (by omega) (by omega)
      by_cases q1 : v1 = v
      · by_cases q2 : v2 = v
        · rw [q1, q2]
        · rw [q1, zp, hpl v2 hv2 q2] at e
          rw [q1, zp] at e0
          exact absurd e.symm (hu v2 hv2 q2 e0)
      · rw [hpl v1 hv1 q1] at e e0
        by_cases q2 : v2 = v
        · rw [q2, zp] at e
          rw [e] at e0
          exact absurd e (hu v1 hv1 q1 e0)
        · rw [hpl v2 hv2 q2] at e
          exact w.uni v1 v2 hv1 hv2 e e0
    · rw [hi (by omega) (by omega) (by omega) (by omega) (by omega) (by omega)]; exact w.leaf v' k hv' hk
    · rw [hi (by omega) (by omega) (by omega) (by omega) (by omega) (by omega)]; exact w.vol0 v' x hv1 hv' hx
    · rw [hi (by omega) (by omega) (by omega) (by omega) (by omega) (by omega)]; exact w.leaf0 v' k x hv1 hv' hk hx
    · obtain ⟨c1, c2, c3⟩ := w.cra c' hc'
      refine ⟨?_, ?_, fun hn => ?_⟩
      · rw [hi (by omega) (by omega) (by omega) (by omega) (by omega) (by omega)]; exact c1
      · by_cases q : c' = c
        · rw [q]
          exact ⟨0, by omega, zc2⟩
        · rw [hi (by omega) (by omega) (by omega) (by omega) (by omega) (by omega)]; exact c2
      · by_cases q : c' = c
        · rw [q]
          exact zc2
        · rw [hi (by omega) (by omega) (by omega) (by omega) (by omega) (by omega)]
          rw [ho c' hc' q] at hn
          exact c3 hn
    · rw [hi (by omega) (by omega) (by omega) (by omega) (by omega) (by omega)]; exact w.cra0 c' x hc1 hc' hx
    · by_cases q : r' = r
      · rw [q]
        refine ⟨?_, a, ha, zr1.trans eW⟩
        rw [zr0]
        exact (w.vol v hv).1
      · rw [hi (i := 111 + 4 * r' + 0) (by omega) (by omega) (by omega) (by omega) (by omega) (by omega), hi (i := 111 + 4 * r' + 1) (by omega) (by omega) (by omega) (by omega) (by omega) (by omega)]; exact w.car r' hr'
    · rw [hi (by omega) (by omega) (by omega) (by omega) (by omega) (by omega)]; exact w.car0 r' x hr1 hr' hx
end GO2
