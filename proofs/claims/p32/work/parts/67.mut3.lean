section MU3
variable {T : Nat → Nat → Int32} {z : Nat → Int32} {nv nc nr ne : Nat}
def zC (b0 b1 : Int32) (nc : Nat) (z : Nat → Int32) : Nat → Int32 := (upd (upd (upd z ((95 + (4 * nc)) + 0) b0) ((95 + (4 * nc)) + 1) b1) 1 (nI ((nc + 1))))
theorem zC_at {b0 b1 : Int32} : zC b0 b1 nc z 1 = nI (nc + 1) ∧ zC b0 b1 nc z (95 + 4 * nc + 0) = b0 ∧ zC b0 b1 nc z (95 + 4 * nc + 1) = b1 ∧ ∀ i, i ≠ 1 → i ≠ 95 + 4 * nc + 0 → i ≠ 95 + 4 * nc + 1 → zC b0 b1 nc z i = z i := by
  unfold zC
  refine ⟨upd_eq, ?_, ?_, fun i h1 h2 h3 => ?_⟩
  · rw [upd_ne (by omega), upd_ne (by omega), upd_eq]
  · rw [upd_ne (by omega), upd_eq]
  · rw [upd_ne h1, upd_ne h3, upd_ne h2]
theorem tC_at {b0 b1 : Int32} : F_0newCradle_T b0 b1 nc T 2 (nc * 5 + 0) = b0 ∧ F_0newCradle_T b0 b1 nc T 2 (nc * 5 + 1) = b1 ∧ F_0newCradle_T b0 b1 nc T 2 (nc * 5 + 2) = -1 ∧ (∀ i, i ≠ nc * 5 + 0 → i ≠ nc * 5 + 1 → i ≠ nc * 5 + 2 → F_0newCradle_T b0 b1 nc T 2 i = T 2 i) ∧ F_0newCradle_T b0 b1 nc T 5 = upd (T 5) 1 (T 5 1 + nI 1) ∧ ∀ j, j ≠ 2 → j ≠ 5 → F_0newCradle_T b0 b1 nc T j = T j := by
  unfold F_0newCradle_T
  rw [tu_ne (show 2 ≠ 5 by decide), tu_eq, tu_eq]
  refine ⟨?_, ?_, upd_eq, fun i h0 h1 h2 => ?_, rfl, fun j h0 h5 => ?_⟩
  · rw [upd_ne (by omega), upd_ne (by omega), upd_eq]
  · rw [upd_ne (by omega), upd_eq]
  · rw [upd_ne h2, upd_ne h1, upd_ne h0]
  · rw [tu_ne h5, tu_ne h0]
theorem vo_none {n : Nat} {x : Int32} (h : ∀ q, q < n → ¬ z (11 + 7 * q + 5) - nI 1 = x) : vo z x n = none := by
  cases e : vo z x n with
  | none => rfl
  | some q => exact absurd (vo_some e).2 (h q (vo_some e).1)
theorem mut_cradle (h : RT T z nv nc) (w : WZ z nv nc nr ne) (h4 : nc < 4) {b0 b1 : Int32} {a1 : Nat} (ha1 : a1 ≤ 2) (e1 : b1 = nI a1) : RT (F_0newCradle_T b0 b1 nc T) (zC b0 b1 nc z) nv (nc + 1) ∧ WZ (zC b0 b1 nc z) nv (nc + 1) nr ne := by
  have h12 := w.nv.2
  obtain ⟨z1, zb0, zb1, hi'⟩ := zC_at (z := z) (nc := nc) (b0 := b0) (b1 := b1)
  obtain ⟨t0, t1, t2, tn, t55, tj⟩ := tC_at (T := T) (nc := nc) (b0 := b0) (b1 := b1)
  have hi : ∀ {i : Nat}, i ≠ 1 → i ≠ 95 + 4 * nc + 0 → i ≠ 95 + 4 * nc + 1 → zC b0 b1 nc z i = z i := fun h1 h2 h3 => hi' _ h1 h2 h3
  generalize zC b0 b1 nc z = y at *
  generalize F_0newCradle_T b0 b1 nc T = Y at *
  have hvo : ∀ x, vo y x nv = vo z x nv := fun x => vo_congr nv fun q hq => hi (by omega) (by omega) (by omega)
  have hno : vo z (nI nc) nv = none := vo_none fun q hq e => by
    obtain ⟨a, ha, ea⟩ := (w.vol q hq).2.2.2.1
    rw [ea] at e
    cases a with
    | zero => exact m1_ne (by omega) e
    | succ a =>
      rw [nI_p1] at e
      have := (nI_eq (by omega) (by omega)).mp e
      omega
  have w2 : z (95 + 4 * nc + 2) = nI 0 := w.cra0 nc 2 (Nat.le_refl _) h4 (by omega)
  constructor
  · refine ⟨fun k hk => ?_, fun v x hv hx h5 => ?_, fun v hv => ?_, fun v hv hv' => ?_, fun v k x hv hk hx => ?_, fun c hc => ?_, fun c hc => ?_, fun c hc hc' => ?_, fun r x hr hx => ?_, fun e x he hx => ?_⟩
    · rw [t55]
      by_cases q : k = 1
      · rw [q, upd_eq, z1, h.num 1 (by omega), w.nc.1, nI_add]
      · rw [upd_ne q, hi q (by omega) (by omega)]
        exact h.num k hk
    · rw [tj 0 (by decide) (by decide), hi (by omega) (by omega) (by omega)]; exact h.vol v x hv hx h5
    · rw [tj 0 (by decide) (by decide), hi (by omega) (by omega) (by omega)]; exact h.pl v hv
    · rw [tj 0 (by decide) (by decide)]; exact h.pl0 v hv hv'
    · rw [tj 1 (by decide) (by decide), hi (by omega) (by omega) (by omega)]; exact h.leaf v k x hv hk hx
    · obtain ⟨c0, c1, c2, c3⟩ := h.cra c hc
      by_cases q : c = nc
      · subst q
        refine ⟨by rw [t0, zb0], by rw [t1, zb1], ?_, ?_⟩
        · rw [tn _ (by omega) (by omega) (by omega), hi (by omega) (by omega) (by omega)]; exact c2
        · rw [tn _ (by omega) (by omega) (by omega), hi (by omega) (by omega) (by omega)]; exact c3
      · refine ⟨?_, ?_, ?_, ?_⟩
        · rw [tn _ (by omega) (by omega) (by omega), hi (by omega) (by omega) (by omega)]; exact c0
        · rw [tn _ (by omega) (by omega) (by omega), hi (by omega) (by omega) (by omega)]; exact c1
        · rw [tn _ (by omega) (by omega) (by omega), hi (by omega) (by omega) (by omega)]; exact c2
        · rw [tn _ (by omega) (by omega) (by omega), hi (by omega) (by omega) (by omega)]; exact c3
    · rw [hvo]
      by_cases q : c = nc
      · rw [q, t2, hno]
        rfl
      · rw [tn _ (by omega) (by omega) (by omega)]; exact h.held c (by omega)
    · rw [tn _ (by omega) (by omega) (by omega)]; exact h.held0 c (by omega) hc'
    · rw [tj 3 (by decide) (by decide), hi (by omega) (by omega) (by omega)]; exact h.car r x hr hx
    · rw [tj 4 (by decide) (by decide), hi (by omega) (by omega) (by omega)]; exact h.ent e x he hx
  · refine ⟨⟨⟨?_, h12⟩, ⟨z1, by omega⟩, ⟨?_, w.nr.2⟩, ⟨?_, w.ne.2⟩, fun v hv => ?_⟩, ?_, ⟨?_, ?_, ?_, ?_⟩, fun v hv => ?_, fun v v' hv hv' => ?_, fun v k hv hk => ?_, fun v x hv hv' hx => ?_, fun v k x hv hv' hk hx => ?_, fun c hc => ?_, fun c x hc hc' hx => ?_, fun r hr => ?_, fun r x hr hr' hx => ?_⟩
    · rw [hi (by omega) (by omega) (by omega)]; exact w.nv.1
    · rw [hi (by omega) (by omega) (by omega)]; exact w.nr.1
    · rw [hi (by omega) (by omega) (by omega)]; exact w.ne.1
    · unfold lv
      rw [hi (by omega) (by omega) (by omega)]
      exact w.lv v hv
    · rw [hi (by omega) (by omega) (by omega)]; exact w.min
    · rw [hi (by omega) (by omega) (by omega)]; exact w.s0
    · rw [hi (by omega) (by omega) (by omega)]; exact w.s1
    · rw [hi (by omega) (by omega) (by omega)]; exact w.s2
    · rw [hi (by omega) (by omega) (by omega)]; exact w.s3
    · rw [hi (i := 11 + 7 * v + 0) (by omega) (by omega) (by omega), hi (i := 11 + 7 * v + 3) (by omega) (by omega) (by omega), hi (i := 11 + 7 * v + 4) (by omega) (by omega) (by omega), hi (i := 11 + 7 * v + 5) (by omega) (by omega) (by omega), hi (i := 11 + 7 * v + 6) (by omega) (by omega) (by omega)]
      obtain ⟨v0, v3, v4, ⟨a, ha, ea⟩, v6⟩ := w.vol v hv
      exact ⟨v0, v3, v4, ⟨a, by omega, ea⟩, v6⟩
    · rw [hi (i := 11 + 7 * v + 5) (by omega) (by omega) (by omega), hi (i := 11 + 7 * v' + 5) (by omega) (by omega) (by omega)]; exact w.uni v v' hv hv'
    · rw [hi (by omega) (by omega) (by omega)]; exact w.leaf v k hv hk
    · rw [hi (by omega) (by omega) (by omega)]; exact w.vol0 v x hv hv' hx
    · rw [hi (by omega) (by omega) (by omega)]; exact w.leaf0 v k x hv hv' hk hx
    · rw [hi (i := 95 + 4 * c + 2) (by omega) (by omega) (by omega), hvo]
      by_cases q : c = nc
      · subst q
        refine ⟨⟨a1, ha1, by rw [zb1, e1]⟩, ⟨0, by omega, w2⟩, fun _ => w2⟩
      · rw [hi (i := 95 + 4 * c + 1) (by omega) (by omega) (by omega)]
        exact w.cra c (by omega)
    · rw [hi (by omega) (by omega) (by omega)]; exact w.cra0 c x (by omega) hc' hx
    · rw [hi (i := 111 + 4 * r + 0) (by omega) (by omega) (by omega), hi (i := 111 + 4 * r + 1) (by omega) (by omega) (by omega)]; exact w.car r hr
    · rw [hi (by omega) (by omega) (by omega)]; exact w.car0 r x hr hr' hx
/-! a faulty leaf, a barred leaf -/
def zR (v k : Nat) (z : Nat → Int32) : Nat → Int32 := (upd (upd z (423 + (3 * ((40 * v) + k))) (nI (2))) 6 ((z 6) + (nI (1))))
theorem mut_reject (h : RT T z nv nc) (w : WZ z nv nc nr ne) {v k : Nat} (hv : v < nv) (hk : k < 40) : RT (F_0findFaulty_T v k T) (zR v k z) nv nc ∧ WZ (zR v k z) nv nc nr ne := by
  have h12 := w.nv.2
  have h4 := w.nc.2
  have zl : zR v k z (423 + 3 * (40 * v + k) + 0) = nI 2 := by
    unfold zR
    rw [upd_ne (by omega)]
    exact upd_eq
  have z6 : zR v k z 6 = z 6 + nI 1 := upd_eq
  have hi : ∀ {i : Nat}, i ≠ 6 → i ≠ 423 + 3 * (40 * v + k) + 0 → zR v k z i = z i := fun h1 h2 => by
    unfold zR
    rw [upd_ne h1]
    exact upd_ne h2
  have t1 : F_0findFaulty_T v k T 1 = upd (T 1) ((v * 120) + ((k * 3) + 0)) (nI (2)) := rfl
  have t5 : F_0findFaulty_T v k T 5 = upd (T 5) 6 (((T 5) 6) + (nI (1))) := rfl
  have tj : ∀ j, j ≠ 1 → j ≠ 5 → F_0findFaulty_T v k T j = T j := fun j h1 h5 => by
    unfold F_0findFaulty_T
    rw [tu_ne h5, tu_ne h1]
  generalize zR v k z = y at *
  generalize F_0findFaulty_T v k T = Y at *
  have hvo : ∀ x, vo y x nv = vo z x nv := fun x => vo_congr nv fun q hq => hi (by omega) (by omega)
  constructor
  · refine ⟨fun k' hk' => ?_, fun v x hv hx h5 => ?_, fun v hv => ?_, fun v hv hv' => ?_, fun v' k' x hv' hk' hx => ?_, fun c hc => ⟨?_, ?_, ?_, ?_⟩, fun c hc => ?_, fun c hc hc' => ?_, fun r x hr hx => ?_, fun e x he hx => ?_⟩
    · rw [t5]
      by_cases q : k' = 6
      · rw [q, upd_eq, z6, h.num 6 (by omega)]
      · rw [upd_ne q, hi q (by omega)]
        exact h.num k' hk'
    · rw [tj 0 (by decide) (by decide), hi (by omega) (by omega)]; exact h.vol v x hv hx h5
    · rw [tj 0 (by decide) (by decide), hi (by omega) (by omega)]; exact h.pl v hv
    · rw [tj 0 (by decide) (by decide)]; exact h.pl0 v hv hv'
    · rw [t1]
      by_cases q : v' = v ∧ k' = k ∧ x = 0
      · obtain ⟨q1, q2, q3⟩ := q
        rw [q1, q2, q3, upd_eq, zl]
      · rw [upd_ne (by omega), hi (by omega) (by omega)]; exact h.leaf v' k' x hv' hk' hx
    · rw [tj 2 (by decide) (by decide), hi (by omega) (by omega)]; exact (h.cra c hc).1
    · rw [tj 2 (by decide) (by decide), hi (by omega) (by omega)]; exact (h.cra c hc).2.1
    · rw [tj 2 (by decide) (by decide), hi (by omega) (by omega)]; exact (h.cra c hc).2.2.1
    · rw [tj 2 (by decide) (by decide), hi (by omega) (by omega)]; exact (h.cra c hc).2.2.2
    · rw [tj 2 (by decide) (by decide), hvo]; exact h.held c hc
    · rw [tj 2 (by decide) (by decide)]; exact h.held0 c hc hc'
    · rw [tj 3 (by decide) (by decide), hi (by omega) (by omega)]; exact h.car r x hr hx
    · rw [tj 4 (by decide) (by decide), hi (by omega) (by omega)]; exact h.ent e x he hx
  · refine ⟨⟨⟨?_, h12⟩, ⟨?_, h4⟩, ⟨?_, w.nr.2⟩, ⟨?_, w.ne.2⟩, fun v hv => ?_⟩, ?_, ⟨?_, ?_, ?_, ?_⟩, fun v hv => ?_, fun v v' hv hv' => ?_, fun v' k' hv' hk' => ?_, fun v x hv hv' hx => ?_, fun v' k' x hv2 hv' hk' hx => ?_, fun c hc => ?_, fun c x hc hc' hx => ?_, fun r hr => ?_, fun r x hr hr' hx => ?_⟩
    · rw [hi (by omega) (by omega)]; exact w.nv.1
    · rw [hi (by omega) (by omega)]; exact w.nc.1
    · rw [hi (by omega) (by omega)]; exact w.nr.1
    · rw [hi (by omega) (by omega)]; exact w.ne.1
    · unfold lv
      rw [hi (by omega) (by omega)]
      exact w.lv v hv
    · rw [hi (by omega) (by omega)]; exact w.min
    · rw [hi (by omega) (by omega)]; exact w.s0
    · rw [hi (by omega) (by omega)]; exact w.s1
    · rw [hi (by omega) (by omega)]; exact w.s2
    · rw [hi (by omega) (by omega)]; exact w.s3
    · rw [hi (i := 11 + 7 * v + 0) (by omega) (by omega), hi (i := 11 + 7 * v + 3) (by omega) (by omega), hi (i := 11 + 7 * v + 4) (by omega) (by omega), hi (i := 11 + 7 * v + 5) (by omega) (by omega), hi (i := 11 + 7 * v + 6) (by omega) (by omega)]
      exact w.vol v hv
    · rw [hi (i := 11 + 7 * v + 5) (by omega) (by omega), hi (i := 11 + 7 * v' + 5) (by omega) (by omega)]; exact w.uni v v' hv hv'
    · by_cases q : v' = v ∧ k' = k
      · rw [q.1, q.2]
        exact ⟨2, by omega, zl⟩
      · rw [hi (by omega) (by omega)]; exact w.leaf v' k' hv' hk'
    · rw [hi (by omega) (by omega)]; exact w.vol0 v x hv hv' hx
    · rw [hi (by omega) (by omega)]; exact w.leaf0 v' k' x hv2 hv' hk' hx
    · rw [hi (i := 95 + 4 * c + 1) (by omega) (by omega), hi (i := 95 + 4 * c + 2) (by omega) (by omega), hvo]; exact w.cra c hc
    · rw [hi (by omega) (by omega)]; exact w.cra0 c x hc hc' hx
    · rw [hi (i := 111 + 4 * r + 0) (by omega) (by omega), hi (i := 111 + 4 * r + 1) (by omega) (by omega)]; exact w.car r hr
    · rw [hi (by omega) (by omega)]; exact w.car0 r x hr hr' hx
end MU3
