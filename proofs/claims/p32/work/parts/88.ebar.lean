section BA
variable {T : Nat → Nat → Int32} {z : Nat → Int32} {nv nc nr ne : Nat}
/-- a leaf barred -/
theorem mut_leaf2 (h : RT T z nv nc) (w : WZ z nv nc nr ne) {v k : Nat} (hv : v < nv) (hk : k < 40) (x0 : Int32) : RT (tu T 1 (upd (T 1) (v * 120 + (k * 3 + 2)) x0)) (upd z (423 + 3 * (40 * v + k) + 2) x0) nv nc ∧ WZ (upd z (423 + 3 * (40 * v + k) + 2) x0) nv nc nr ne := by
  have h12 := w.nv.2
  have h4 := w.nc.2
  have zl : upd z (423 + 3 * (40 * v + k) + 2) x0 (423 + 3 * (40 * v + k) + 2) = x0 := upd_eq
  have hi : ∀ {i : Nat}, i ≠ 423 + 3 * (40 * v + k) + 2 → upd z (423 + 3 * (40 * v + k) + 2) x0 i = z i := fun h1 => upd_ne h1
  have t1 : tu T 1 (upd (T 1) (v * 120 + (k * 3 + 2)) x0) 1 = upd (T 1) (v * 120 + (k * 3 + 2)) x0 := tu_eq
  have tj : ∀ j, j ≠ 1 → tu T 1 (upd (T 1) (v * 120 + (k * 3 + 2)) x0) j = T j := fun j h1 => tu_ne h1
  generalize upd z (423 + 3 * (40 * v + k) + 2) x0 = y at *
  generalize tu T 1 (upd (T 1) (v * 120 + (k * 3 + 2)) x0) = Y at *
  have hvo : ∀ x, vo y x nv = vo z x nv := fun x => vo_congr nv fun q hq => hi (by omega)
  constructor
  · refine ⟨fun k' hk' => ?_, fun v x hv hx h5 => ?_, fun v hv => ?_, fun v hv hv' => ?_, fun v' k' x hv' hk' hx => ?_, fun c hc => ⟨?_, ?_, ?_, ?_⟩, fun c hc => ?_, fun c hc hc' => ?_, fun r x hr hx => ?_, fun e x he hx => ?_⟩
    · rw [tj 5 (by decide), hi (by omega)]; exact h.num k' hk'
    · rw [tj 0 (by decide), hi (by omega)]; exact h.vol v x hv hx h5
    · rw [tj 0 (by decide), hi (by omega)]; exact h.pl v hv
    · rw [tj 0 (by decide)]; exact h.pl0 v hv hv'
    · rw [t1]
      by_cases q : v' = v ∧ k' = k ∧ x = 2
      · obtain ⟨q1, q2, q3⟩ := q
        rw [q1, q2, q3, upd_eq, zl]
      · rw [upd_ne (by omega), hi (by omega)]; exact h.leaf v' k' x hv' hk' hx
    · rw [tj 2 (by decide), hi (by omega)]; exact (h.cra c hc).1
    · rw [tj 2 (by decide), hi (by omega)]; exact (h.cra c hc).2.1
    · rw [tj 2 (by decide), hi (by omega)]; exact (h.cra c hc).2.2.1
    · rw [tj 2 (by decide), hi (by omega)]; exact (h.cra c hc).2.2.2
    · rw [tj 2 (by decide), hvo]; exact h.held c hc
    · rw [tj 2 (by decide)]; exact h.held0 c hc hc'
    · rw [tj 3 (by decide), hi (by omega)]; exact h.car r x hr hx
    · rw [tj 4 (by decide), hi (by omega)]; exact h.ent e x he hx
  · refine ⟨⟨⟨?_, h12⟩, ⟨?_, h4⟩, ⟨?_, w.nr.2⟩, ⟨?_, w.ne.2⟩, fun v hv => ?_⟩, ?_, ⟨?_, ?_, ?_, ?_⟩, fun v hv => ?_, fun v v' hv hv' => ?_, fun v' k' hv' hk' => ?_, fun v x hv hv' hx => ?_, fun v' k' x hv2 hv' hk' hx => ?_, fun c hc => ?_, fun c x hc hc' hx => ?_, fun r hr => ?_, fun r x hr hr' hx => ?_⟩
    · rw [hi (by omega)]; exact w.nv.1
    · rw [hi (by omega)]; exact w.nc.1
    · rw [hi (by omega)]; exact w.nr.1
    · rw [hi (by omega)]; exact w.ne.1
    · unfold lv
      rw [hi (by omega)]
      exact w.lv v hv
    · rw [hi (by omega)]; exact w.min
    · rw [hi (by omega)]; exact w.s0
    · rw [hi (by omega)]; exact w.s1
    · rw [hi (by omega)]; exact w.s2
    · rw [hi (by omega)]; exact w.s3
    · rw [hi (i := 11 + 7 * v + 0) (by omega), hi (i := 11 + 7 * v + 3) (by omega), hi (i := 11 + 7 * v + 4) (by omega), hi (i := 11 + 7 * v + 5) (by omega), hi (i := 11 + 7 * v + 6) (by omega)]
      exact w.vol v hv
    · rw [hi (i := 11 + 7 * v + 5) (by omega), hi (i := 11 + 7 * v' + 5) (by omega)]; exact w.uni v v' hv hv'
    · rw [hi (by omega)]; exact w.leaf v' k' hv' hk'
    · rw [hi (by omega)]; exact w.vol0 v x hv hv' hx
    · rw [hi (by omega)]; exact w.leaf0 v' k' x hv2 hv' hk' hx
    · rw [hi (i := 95 + 4 * c + 1) (by omega), hi (i := 95 + 4 * c + 2) (by omega), hvo]; exact w.cra c hc
    · rw [hi (by omega)]; exact w.cra0 c x hc hc' hx
    · rw [hi (i := 111 + 4 * r + 0) (by omega), hi (i := 111 + 4 * r + 1) (by omega)]; exact w.car r hr
    · rw [hi (by omega)]; exact w.car0 r x hr hr' hx
theorem mut_part (h : RT T z nv nc) (w : WZ z nv nc nr ne) {v q e : Nat} {A : Nat → Nat} {te fr to un : Nat → Int32} {y : Int32} (hv : v < nv) (hy : y = F_5read_un q te fr to un e) : ∀ j : Nat, A e + j ≤ 40 → RT (L_0barLeaves_3 v (A e) y T j) (L_5bar_102 v q A te fr to un e z j) nv nc ∧ WZ (L_5bar_102 v q A te fr to un e z j) nv nc nr ne
  | 0, _ => ⟨h, w⟩
  | j + 1, hj => by
    obtain ⟨a, b⟩ := mut_part (A := A) h w hv hy j (by omega)
    have := mut_leaf2 a b hv (show A e + j < 40 by omega) y
    show RT (B_0barLeaves_3 v (A e) y j (L_0barLeaves_3 v (A e) y T j)) (B_5bar_102 v q A te fr to un e j (L_5bar_102 v q A te fr to un e z j)) nv nc ∧ WZ (B_5bar_102 v q A te fr to un e j (L_5bar_102 v q A te fr to un e z j)) nv nc nr ne
    unfold B_0barLeaves_3 B_5bar_102
    rw [← hy]
    exact this
theorem mut_bar (h : RT T z nv nc) (w : WZ z nv nc nr ne) {v q n : Nat} {A B : Nat → Nat} {te fr to un tc tp : Nat → Int32} {tf tla : Int32} (hv : v < nv) (hAB : ∀ k, k ≤ n → A k ≤ B k ∧ B k < 40) (hy : ∀ k, k ≤ n → F_1read_tp q tc tp tf tla (k * 3 + 2) = F_5read_un q te fr to un k) : ∀ j : Nat, j ≤ n + 1 → RT (L_4bar_80 v q A B T tc tp tf tla j) (L_5bar_87 v q A B z te fr to un j) nv nc ∧ WZ (L_5bar_87 v q A B z te fr to un j) nv nc nr ne
  | 0, _ => ⟨h, w⟩
  | j + 1, hj => by
    obtain ⟨a, b⟩ := mut_bar (A := A) (B := B) h w hv hAB hy j (by omega)
    have hab := hAB j (by omega)
    exact mut_part a b hv (hy j (by omega)) (B j + 1 - A j) (by omega)
/-- the greatest leaf of the parts that were read -/
theorem great_lt {tp : Nat → Int32} {B : Nat → Nat} {m : Nat} (hm : m < 1000) : ∀ j : Nat, (∀ k, k < j → tp (k * 3 + 1) = nI (B k) ∧ B k < 1000) → (L_1greatestLeaf_4 tp j < nI m ↔ ∀ k, k < j → B k < m)
  | 0, _ => ⟨fun _ k hk => absurd hk (by omega), fun _ => by
      show (-1 : Int32) < nI m
      rw [Int32.lt_iff_toInt_lt, nI_toInt (by omega)]
      exact Int.lt_of_lt_of_le (by decide) (Int.natCast_nonneg m)⟩
  | j + 1, h => by
    have ih := great_lt hm j (fun k hk => h k (by omega))
    obtain ⟨e, hb⟩ := h j (by omega)
    have el : L_1greatestLeaf_4 tp (j + 1) = if L_1greatestLeaf_4 tp j < nI (B j) then nI (B j) else L_1greatestLeaf_4 tp j := by
      show B_1greatestLeaf_4 tp j (L_1greatestLeaf_4 tp j) = _
      unfold B_1greatestLeaf_4
      rw [e]
    rw [el]
    constructor
    · intro hl
      have hh : L_1greatestLeaf_4 tp j < nI m ∧ B j < m := by
        split at hl
        · rename_i hc
          exact ⟨Int32.lt_trans hc hl, (nI_ltI (by omega) (by omega)).mp hl⟩
        · rename_i hc
          refine ⟨hl, (nI_ltI (by omega) (by omega)).mp ?_⟩
          rw [Int32.lt_iff_toInt_lt] at *
          omega
      intro k hk
      by_cases q : k = j
      · rw [q]
        exact hh.2
      · exact ih.mp hh.1 k (by omega)
    · intro hall
      split
      · exact (nI_ltI (by omega) (by omega)).mpr (hall j (by omega))
      · exact ih.mpr (fun k hk => hall k (by omega))
theorem first_bad {P : Nat → Prop} {n : Nat} (h : ¬ ∀ k, k ≤ n → P k) : ∃ e, e ≤ n ∧ ¬ P e ∧ ∀ k, k < e → P k := by
  induction n with
  | zero => exact ⟨0, Nat.le_refl _, fun p => h (fun k hk => by rw [Nat.le_zero.mp hk]; exact p), fun k hk => absurd hk (by omega)⟩
  | succ n ih =>
    by_cases q : ∀ k, k ≤ n → P k
    · refine ⟨n + 1, Nat.le_refl _, fun p => h (fun k hk => ?_), fun k hk => q k (by omega)⟩
      by_cases e : k = n + 1
      · rw [e]; exact p
      · exact q k (by omega)
    · obtain ⟨e, h1, h2, h3⟩ := ih q
      exact ⟨e, by omega, h2, h3⟩
theorem read_le {q : Nat} {tc : Nat → Int32} : ∀ (f j : Nat) (tp : Nat → Int32) (tn trd tv tdg tf tla : Int32), j + f = q → ∃ k, k ≤ q ∧ (W_1read_12 q tc f j tp tn trd tv tdg tf tla).1 = nI k := by
  intro f
  induction f with
  | zero =>
    intro j tp tn trd tv tdg tf tla hj
    rw [W_1read_12]
    exact ⟨q, Nat.le_refl _, rfl⟩
  | succ f ih =>
    intro j tp tn trd tv tdg tf tla hj
    rw [W_1read_12]
    split
    · exact ⟨j, by omega, rfl⟩
    · exact ih _ _ _ _ _ _ _ _ (by omega)
theorem n40 {x : Int32} (h0 : 0 ≤ x) (h1 : x < nI 40) : x = nI x.toNatClampNeg ∧ x.toNatClampNeg < 40 := by
  obtain ⟨k, hk, rfl⟩ := n_of (by decide) h0 h1
  rw [nI_clamp (by omega)]
  exact ⟨rfl, hk⟩
theorem Row.nat {fr to un tp : Nat → Int32} {e : Nat} (h : Row fr to un tp e) : fr e = nI (fr e).toNatClampNeg ∧ F_5lastOf e fr to = nI (F_5lastOf e fr to).toNatClampNeg ∧ (fr e).toNatClampNeg ≤ (F_5lastOf e fr to).toNatClampNeg ∧ (F_5lastOf e fr to).toNatClampNeg < 40 ∧ tp (e * 3 + 0) = fr e ∧ tp (e * 3 + 1) = F_5lastOf e fr to ∧ tp (e * 3 + 2) = un e := by
  obtain ⟨a, b, c, d, e1, f⟩ := h
  obtain ⟨g1, g2⟩ := n40 d e1
  unfold F_5lastOf
  by_cases q : to e = -1
  · rw [if_pos q] at b
    rw [if_pos q]
    exact ⟨g1, g1, Nat.le_refl _, g2, a, b, c⟩
  · rw [if_neg q] at b
    rw [if_neg q]
    rcases f with f | ⟨f1, f2⟩
    · exact absurd f q
    have t0 : 0 ≤ to e := by
      rw [Int32.le_iff_toInt_le] at *
      rw [Int32.lt_iff_toInt_lt] at f1
      omega
    obtain ⟨k1, k2⟩ := n40 t0 f2
    refine ⟨g1, k1, ?_, k2, a, b, c⟩
    rw [g1, k1, nI_ltI (by omega) (by omega)] at f1
    omega
/-- what bar meets in the buffer, on both sides -/
theorem bar_cases {q : Nat} {te tc : Nat → Int32} (hq : q ≤ 60) (hcd : ∀ k, k < q → tc k = te k ∧ ∃ c : Nat, c < 127 ∧ te k = nI c) (fr to un tp : Nat → Int32) (tf tla : Int32) :
    (F_1read q tc tp tf tla < nI q ∧ F_5read q te fr to un < nI q) ∨
    (¬ F_1read q tc tp tf tla < nI q ∧ ¬ F_5read q te fr to un < nI q ∧ F_1isComplete (F_1read_trd q tc tp tf tla) (F_1read_tdg q tc tp tf tla) = 0 ∧ ¬ F_5read_sta q te fr to un = nI 10) ∨
    (¬ F_1read q tc tp tf tla < nI q ∧ ¬ F_5read q te fr to un < nI q ∧ ¬ F_1isComplete (F_1read_trd q tc tp tf tla) (F_1read_tdg q tc tp tf tla) = 0 ∧ F_5read_sta q te fr to un = nI 10 ∧
      ∃ n, n < 10 ∧ F_5read_en q te fr to un = nI n ∧ F_1read_tn q tc tp tf tla = nI (n + 1) ∧ ∀ e, e ≤ n → Row (F_5read_fr q te fr to un) (F_5read_to q te fr to un) (F_5read_un q te fr to un) (F_1read_tp q tc tp tf tla) e) := by
  obtain ⟨e1, e2⟩ := e_read hq hcd fr to un tp tf tla
  by_cases h : F_1read q tc tp tf tla < nI q
  · exact Or.inl ⟨h, by rw [e1]; exact h⟩
  refine Or.inr ?_
  obtain ⟨k, hk, ek⟩ := read_le (tc := tc) q 0 tp (nI 0) (F_1begin_trd (nI 0)) F_1begin_tv F_1begin_tdg tf tla (show 0 + q = q by omega)
  have ek' : F_1read q tc tp tf tla = nI k := ek
  have hkq : k = q := by
    rw [ek', nI_ltI (by omega) (by omega)] at h
    omega
  have h5 : ¬ F_5read q te fr to un < nI q := by rw [e1]; exact h
  obtain ⟨n, hn, n10, hrow, hcase, hpa⟩ := e2 (by rw [e1, ek', hkq])
  have hc := (PA_10 hpa).1
  by_cases hs : F_5read_sta q te fr to un = nI 10
  · refine Or.inr ⟨h, h5, fun e => absurd hs (hc.mp e), hs, n, n10, hn, ?_⟩
    rcases hcase with c | c
    · exact absurd hs c.1
    refine ⟨c.2.1, fun e he => ?_⟩
    by_cases q1 : e = n
    · rw [q1]; exact c.2.2
    · exact hrow e (by omega)
  · exact Or.inl ⟨h, h5, hc.mpr hs, hs⟩
end BA
