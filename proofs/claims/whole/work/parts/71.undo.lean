/-! WHAT IS SAVED: the class's ring and the reference's rows -/
def ksz : Nat → Nat
  | 0 => 91
  | 1 => 1560
  | 2 => 25
  | 3 => 12
  | 4 => 300
  | _ => 11
def kT (K : Nat → Nat → Int32) (s : Nat) : Nat → Nat → Int32 := fun t j => K t (s * ksz t + j)
def zS (ro : Nat → Int32) (i : Nat) : Nat → Int32 := fun j => ro (1863 * i + j)
theorem RT_cg {T T' : Nat → Nat → Int32} {z z' : Nat → Int32} {nv nc : Nat} (h12 : nv ≤ 12) (hT : ∀ t j, t < 6 → j < ksz t → T' t j = T t j) (hz : ∀ j, j < 1863 → z' j = z j) (h : RT T z nv nc) (h4 : nc ≤ 4) : RT T' z' nv nc := by
  have hvo : ∀ x, vo z' x nv = vo z x nv := fun x => vo_congr nv fun q hq => hz _ (by omega)
  have k0 : ∀ j, j < 91 → T' 0 j = T 0 j := fun j hj => hT 0 j (by omega) hj
  have k1 : ∀ j, j < 1560 → T' 1 j = T 1 j := fun j hj => hT 1 j (by omega) hj
  have k2 : ∀ j, j < 25 → T' 2 j = T 2 j := fun j hj => hT 2 j (by omega) hj
  have k3 : ∀ j, j < 12 → T' 3 j = T 3 j := fun j hj => hT 3 j (by omega) hj
  have k4 : ∀ j, j < 300 → T' 4 j = T 4 j := fun j hj => hT 4 j (by omega) hj
  have k5 : ∀ j, j < 11 → T' 5 j = T 5 j := fun j hj => hT 5 j (by omega) hj
  refine ⟨fun k hk => ?_, fun v x hv hx h5 => ?_, fun v hv => ?_, fun v hv hv' => ?_, fun v k x hv hk hx => ?_, fun c hc => ⟨?_, ?_, ?_, ?_⟩, fun c hc => ?_, fun c hc hc' => ?_, fun r x hr hx => ?_, fun e x he hx => ?_⟩
  · rw [k5 _ (by omega), hz _ (by omega)]; exact h.num k hk
  · rw [k0 _ (by omega), hz _ (by omega)]; exact h.vol v x hv hx h5
  · rw [k0 _ (by omega), hz _ (by omega)]; exact h.pl v hv
  · rw [k0 _ (by omega)]; exact h.pl0 v hv hv'
  · rw [k1 _ (by omega), hz _ (by omega)]; exact h.leaf v k x hv hk hx
  · rw [k2 _ (by omega), hz _ (by omega)]; exact (h.cra c hc).1
  · rw [k2 _ (by omega), hz _ (by omega)]; exact (h.cra c hc).2.1
  · rw [k2 _ (by omega), hz _ (by omega)]; exact (h.cra c hc).2.2.1
  · rw [k2 _ (by omega), hz _ (by omega)]; exact (h.cra c hc).2.2.2
  · rw [k2 _ (by omega), hvo]; exact h.held c hc
  · rw [k2 _ (by omega)]; exact h.held0 c hc hc'
  · rw [k3 _ (by omega), hz _ (by omega)]; exact h.car r x hr hx
  · rw [k4 _ (by omega), hz _ (by omega)]; exact h.ent e x he hx
theorem WZ_cg {z z' : Nat → Int32} {nv nc nr ne : Nat} (hz : ∀ j, j < 1863 → z' j = z j) (w : WZ z nv nc nr ne) : WZ z' nv nc nr ne := by
  have h12 := w.nv.2
  have h4 := w.nc.2
  have h3 := w.nr.2
  have hvo : ∀ x, vo z' x nv = vo z x nv := fun x => vo_congr nv fun q hq => hz _ (by omega)
  refine ⟨⟨⟨?_, h12⟩, ⟨?_, h4⟩, ⟨?_, h3⟩, ⟨?_, w.ne.2⟩, fun v hv => ?_⟩, ?_, ⟨?_, ?_, ?_, ?_⟩, fun v hv => ?_, fun v v' hv hv' => ?_, fun v' k' hv' hk' => ?_, fun v x hv hv' hx => ?_, fun v' k' x hv2 hv' hk' hx => ?_, fun c hc => ?_, fun c x hc hc' hx => ?_, fun r hr => ?_, fun r x hr hr' hx => ?_⟩
  · rw [hz _ (by omega)]; exact w.nv.1
  · rw [hz _ (by omega)]; exact w.nc.1
  · rw [hz _ (by omega)]; exact w.nr.1
  · rw [hz _ (by omega)]; exact w.ne.1
  · unfold lv
    rw [hz _ (by omega)]
    exact w.lv v hv
  · rw [hz _ (by omega)]; exact w.min
  · rw [hz _ (by omega)]; exact w.s0
  · rw [hz _ (by omega)]; exact w.s1
  · rw [hz _ (by omega)]; exact w.s2
  · rw [hz _ (by omega)]; exact w.s3
  · rw [hz (11 + 7 * v + 0) (by omega), hz (11 + 7 * v + 3) (by omega), hz (11 + 7 * v + 4) (by omega), hz (11 + 7 * v + 5) (by omega), hz (11 + 7 * v + 6) (by omega)]
    exact w.vol v hv
  · rw [hz (11 + 7 * v + 5) (by omega), hz (11 + 7 * v' + 5) (by omega)]; exact w.uni v v' hv hv'
  · rw [hz _ (by omega)]; exact w.leaf v' k' hv' hk'
  · rw [hz _ (by omega)]; exact w.vol0 v x hv hv' hx
  · rw [hz _ (by omega)]; exact w.leaf0 v' k' x hv2 hv' hk' hx
  · rw [hz (95 + 4 * c + 1) (by omega), hz (95 + 4 * c + 2) (by omega), hvo]; exact w.cra c hc
  · rw [hz _ (by omega)]; exact w.cra0 c x hc hc' hx
  · rw [hz (111 + 4 * r + 0) (by omega), hz (111 + 4 * r + 1) (by omega)]; exact w.car r hr
  · rw [hz _ (by omega)]; exact w.car0 r x hr hr' hx
/-- what is saved is related, one by one -/
def SR (K : Nat → Nat → Int32) (ro : Nat → Int32) (a b : Nat) : Prop := ∀ i, i < b → ∃ nv nc nr ne, RT (kT K ((a + i) % 6)) (zS ro i) nv nc ∧ WZ (zS ro i) nv nc nr ne
theorem svM {z ro : Nat → Int32} {s : Nat} : ∀ j : Nat, (∀ i, i < j → L_5saveM_52 s z ro j (1863 * s + i) = z i) ∧ ∀ i, (i < 1863 * s ∨ 1863 * s + j ≤ i) → L_5saveM_52 s z ro j i = ro i
  | 0 => ⟨fun i hi => by omega, fun _ _ => rfl⟩
  | j + 1 => by
    obtain ⟨h1, h2⟩ := svM (z := z) (ro := ro) (s := s) j
    have e : L_5saveM_52 s z ro (j + 1) = upd (L_5saveM_52 s z ro j) ((1863 * s) + j) (z j) := rfl
    rw [e]
    refine ⟨fun i hi => ?_, fun i hi => ?_⟩
    · by_cases q : i = j
      · rw [q, upd_eq]
      · rw [upd_ne (by omega), h1 i (by omega)]
    · rw [upd_ne (by omega), h2 i (by omega)]
theorem svF1 {ro : Nat → Int32} : ∀ j : Nat, j ≤ 1863 * 5 → (∀ i, i < j → L_5saveF_11 ro j i = ro (1863 + i)) ∧ ∀ i, j ≤ i → L_5saveF_11 ro j i = ro i
  | 0, _ => ⟨fun i hi => by omega, fun _ _ => rfl⟩
  | j + 1, hj => by
    obtain ⟨h1, h2⟩ := svF1 (ro := ro) j (by omega)
    have e : L_5saveF_11 ro (j + 1) = upd (L_5saveF_11 ro j) j (L_5saveF_11 ro j (1863 + j)) := rfl
    rw [e]
    refine ⟨fun i hi => ?_, fun i hi => ?_⟩
    · by_cases q : i = j
      · rw [q, upd_eq, h2 _ (by omega)]
      · rw [upd_ne (by omega), h1 i (by omega)]
    · rw [upd_ne (by omega), h2 i (by omega)]
theorem und {z ro : Nat → Int32} {s : Nat} : ∀ j : Nat, (∀ i, i < j → L_5undo_30 s z ro j i = ro (1863 * (s - 1) + i)) ∧ ∀ i, j ≤ i → L_5undo_30 s z ro j i = z i
  | 0 => ⟨fun i hi => by omega, fun _ _ => rfl⟩
  | j + 1 => by
    obtain ⟨h1, h2⟩ := und (z := z) (ro := ro) (s := s) j
    have e : L_5undo_30 s z ro (j + 1) = upd (L_5undo_30 s z ro j) j (ro ((1863 * (s - 1)) + j)) := rfl
    rw [e]
    refine ⟨fun i hi => ?_, fun i hi => ?_⟩
    · by_cases q : i = j
      · rw [q, upd_eq]
      · rw [upd_ne (by omega), h1 i (by omega)]
    · rw [upd_ne (by omega), h2 i (by omega)]
