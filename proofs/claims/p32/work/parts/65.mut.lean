/-! WHAT CHANGES THE CELLS keeps the relation: new volumes, cradles, carriers; settings; the year; a faulty leaf -/
theorem wi_nI {b : Int32} {l h : Nat} (hh : h < 2147483648) (hl : l ≤ h) (e : ¬ wi b (nI l) (nI h) = 0) : ∃ a : Nat, l ≤ a ∧ a ≤ h ∧ b = nI a := by
  unfold wi at e
  by_cases q : nI l ≤ b ∧ b ≤ nI h
  · obtain ⟨q1, q2⟩ := q
    rw [Int32.le_iff_toInt_le, nI_toInt (by omega)] at q1 q2
    refine ⟨b.toInt.toNat, by omega, by omega, ?_⟩
    apply Int32.toInt_inj.mp
    rw [nI_toInt (by omega)]
    omega
  · rw [if_neg q] at e
    exact absurd rfl e
theorem m1_ne {c : Nat} (hc : c < 1000) : ¬ nI 0 - nI 1 = nI c := by
  intro e
  have : nI 0 - nI 1 = (-1 : Int32) := by decide
  rw [this] at e
  exact nI_m1 (by omega) e.symm
section MUT
variable {T : Nat → Nat → Int32} {z : Nat → Int32} {nv nc nr ne : Nat}
/-- a cell below 11 that isn't a count -/
theorem mut_num (h : RT T z nv nc) (w : WZ z nv nc nr ne) {k : Nat} {x : Int32} (hk : k < 11) (hk0 : k ≠ 0) (hk1 : k ≠ 1) (hk2 : k ≠ 2) (hk5 : k ≠ 5) (hx : (k = 3 → ∃ t : Nat, x = nI t) ∧ (k = 7 → ∃ a : Nat, 1 ≤ a ∧ a ≤ 9 ∧ x = nI a) ∧ (k = 8 → ∃ a : Nat, a ≤ 9 ∧ x = nI a) ∧ (k = 9 → ∃ a : Nat, 1 ≤ a ∧ a ≤ 200 ∧ x = nI a) ∧ (k = 10 → ∃ a : Nat, a ≤ 5 ∧ x = nI a)) : RT (tu T 5 (upd (T 5) k x)) (upd z k x) nv nc ∧ WZ (upd z k x) nv nc nr ne := by
  have hi : ∀ i, 11 ≤ i → upd z k x i = z i := fun i h => upd_ne (by omega)
  have hvo : ∀ y, vo (upd z k x) y nv = vo z y nv := fun y => vo_congr nv fun q hq => hi _ (by omega)
  constructor
  · refine ⟨fun k' hk' => ?_, fun v x hv hx h5 => ?_, fun v hv => ?_, fun v hv hv' => ?_, fun v k x hv hk hx => ?_, fun c hc => ⟨?_, ?_, ?_, ?_⟩, fun c hc => ?_, fun c hc hc' => ?_, fun r x hr hx => ?_, fun e x he hx => ?_⟩
    · rw [tu_eq]
      by_cases q : k' = k
      · rw [q, upd_eq, upd_eq]
      · rw [upd_ne q, upd_ne q]
        exact h.num k' hk'
    · rw [hi _ (by omega)]; exact h.vol v x hv hx h5
    · rw [hi _ (by omega)]; exact h.pl v hv
    · exact h.pl0 v hv hv'
    · rw [hi _ (by omega)]; exact h.leaf v k x hv hk hx
    · rw [hi _ (by omega)]; exact (h.cra c hc).1
    · rw [hi _ (by omega)]; exact (h.cra c hc).2.1
    · rw [hi _ (by omega)]; exact (h.cra c hc).2.2.1
    · rw [hi _ (by omega)]; exact (h.cra c hc).2.2.2
    · rw [hvo]; exact h.held c hc
    · exact h.held0 c hc hc'
    · rw [hi _ (by omega)]; exact h.car r x hr hx
    · rw [hi _ (by omega)]; exact h.ent e x he hx
  · obtain ⟨x3, x7, x8, x9, x10⟩ := hx
    have hp : plc k := ⟨hk0, hk1, hk2, hk5, fun v hv => by omega⟩
    refine ⟨ZI_upd hp w.zi, ?_, ⟨?_, ?_, ?_, ?_⟩, fun v hv => ?_, fun v v' hv hv' => ?_, fun v k hv hk => ?_, fun v x hv hv' hx => ?_, fun v k x hv hv' hk hx => ?_, fun c hc => ?_, fun c x hc hc' hx => ?_, fun r hr => ?_, fun r x hr hr' hx => ?_⟩
    · by_cases q : k = 3
      · subst q; rw [upd_eq]; exact x3 rfl
      · rw [upd_ne (fun e => q e.symm)]; exact w.min
    · by_cases q : k = 7
      · subst q; rw [upd_eq]; exact x7 rfl
      · rw [upd_ne (fun e => q e.symm)]; exact w.s0
    · by_cases q : k = 8
      · subst q; rw [upd_eq]; exact x8 rfl
      · rw [upd_ne (fun e => q e.symm)]; exact w.s1
    · by_cases q : k = 9
      · subst q; rw [upd_eq]; exact x9 rfl
      · rw [upd_ne (fun e => q e.symm)]; exact w.s2
    · by_cases q : k = 10
      · subst q; rw [upd_eq]; exact x10 rfl
      · rw [upd_ne (fun e => q e.symm)]; exact w.s3
    · rw [hi _ (by omega), hi _ (by omega), hi _ (by omega), hi _ (by omega), hi _ (by omega)]; exact w.vol v hv
    · rw [hi _ (by omega), hi _ (by omega)]; exact w.uni v v' hv hv'
    · rw [hi _ (by omega)]; exact w.leaf v k hv hk
    · rw [hi _ (by omega)]; exact w.vol0 v x hv hv' hx
    · rw [hi _ (by omega)]; exact w.leaf0 v k x hv hv' hk hx
    · rw [hi _ (by omega), hi _ (by omega), hvo]; exact w.cra c hc
    · rw [hi _ (by omega)]; exact w.cra0 c x hc hc' hx
    · rw [hi _ (by omega), hi _ (by omega)]; exact w.car r hr
    · rw [hi _ (by omega)]; exact w.car0 r x hr hr' hx
theorem mut_year (h : RT T z nv nc) (w : WZ z nv nc nr ne) (y : Int32) : RT (F_0replaceNumber_T 4 y T) (upd z 4 y) nv nc ∧ WZ (upd z 4 y) nv nc nr ne :=
  mut_num h w (by omega) (by omega) (by omega) (by omega) (by omega) ⟨fun e => by omega, fun e => by omega, fun e => by omega, fun e => by omega, fun e => by omega⟩
theorem mut_carrier (h : RT T z nv nc) (w : WZ z nv nc nr ne) (h3 : nr < 3) : RT (F_0newCarrier_T T) (upd z 2 (nI (nr + 1))) nv nc ∧ WZ (upd z 2 (nI (nr + 1))) nv nc (nr + 1) ne := by
  have hi : ∀ i, i ≠ 2 → upd z 2 (nI (nr + 1)) i = z i := fun i h => upd_ne h
  have hvo : ∀ y, vo (upd z 2 (nI (nr + 1))) y nv = vo z y nv := fun y => vo_congr nv fun q hq => hi _ (by omega)
  constructor
  · unfold F_0newCarrier_T
    refine ⟨fun k' hk' => ?_, fun v x hv hx h5 => ?_, fun v hv => ?_, fun v hv hv' => ?_, fun v k x hv hk hx => ?_, fun c hc => ⟨?_, ?_, ?_, ?_⟩, fun c hc => ?_, fun c hc hc' => ?_, fun r x hr hx => ?_, fun e x he hx => ?_⟩
    · rw [tu_eq]
      by_cases q : k' = 2
      · rw [q, upd_eq, upd_eq, h.num 2 (by omega), w.nr.1, nI_add]
      · rw [upd_ne q, upd_ne q]
        exact h.num k' hk'
    · rw [hi _ (by omega)]; exact h.vol v x hv hx h5
    · rw [hi _ (by omega)]; exact h.pl v hv
    · exact h.pl0 v hv hv'
    · rw [hi _ (by omega)]; exact h.leaf v k x hv hk hx
    · rw [hi _ (by omega)]; exact (h.cra c hc).1
    · rw [hi _ (by omega)]; exact (h.cra c hc).2.1
    · rw [hi _ (by omega)]; exact (h.cra c hc).2.2.1
    · rw [hi _ (by omega)]; exact (h.cra c hc).2.2.2
    · rw [hvo]; exact h.held c hc
    · exact h.held0 c hc hc'
    · rw [hi _ (by omega)]; exact h.car r x hr hx
    · rw [hi _ (by omega)]; exact h.ent e x he hx
  · refine ⟨⟨⟨?_, w.nv.2⟩, ⟨?_, w.nc.2⟩, ⟨?_, by omega⟩, ⟨?_, w.ne.2⟩, fun v hv => ?_⟩, ?_, ⟨?_, ?_, ?_, ?_⟩, fun v hv => ?_, fun v v' hv hv' => ?_, fun v k hv hk => ?_, fun v x hv hv' hx => ?_, fun v k x hv hv' hk hx => ?_, fun c hc => ?_, fun c x hc hc' hx => ?_, fun r hr => ?_, fun r x hr hr' hx => ?_⟩
    · rw [hi _ (by omega)]; exact w.nv.1
    · rw [hi _ (by omega)]; exact w.nc.1
    · rw [upd_eq]
    · rw [hi _ (by omega)]; exact w.ne.1
    · have := w.lv v hv
      unfold lv at *
      rw [hi _ (by omega)]; exact this
    · rw [hi _ (by omega)]; exact w.min
    · rw [hi _ (by omega)]; exact w.s0
    · rw [hi _ (by omega)]; exact w.s1
    · rw [hi _ (by omega)]; exact w.s2
    · rw [hi _ (by omega)]; exact w.s3
    · rw [hi _ (by omega), hi _ (by omega), hi _ (by omega), hi _ (by omega), hi _ (by omega)]; exact w.vol v hv
    · rw [hi _ (by omega), hi _ (by omega)]; exact w.uni v v' hv hv'
    · rw [hi _ (by omega)]; exact w.leaf v k hv hk
    · rw [hi _ (by omega)]; exact w.vol0 v x hv hv' hx
    · rw [hi _ (by omega)]; exact w.leaf0 v k x hv hv' hk hx
    · rw [hi _ (by omega), hi _ (by omega), hvo]; exact w.cra c hc
    · rw [hi _ (by omega)]; exact w.cra0 c x hc hc' hx
    · rw [hi _ (by omega), hi _ (by omega)]; exact w.car r hr
    · rw [hi _ (by omega)]; exact w.car0 r x (by omega) hr' hx
end MUT
