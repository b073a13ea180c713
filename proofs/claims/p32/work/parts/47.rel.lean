/-! THE RELATION between the class's tables and the reference's cells -/
theorem i_a0 (x : Int32) : x + nI 0 = x := by rw [nI_0]; exact Int32.add_zero x
/-- the reference's cells are as they should be: nv volumes, nc cradles, nr carriers, ne entries -/
def WZ (z : Nat → Int32) (nv nc nr ne : Nat) : Prop :=
  ZI z nv nc nr ne ∧ (∃ t : Nat, z 3 = nI t) ∧
  ((∃ a : Nat, 1 ≤ a ∧ a ≤ 9 ∧ z 7 = nI a) ∧ (∃ a : Nat, a ≤ 9 ∧ z 8 = nI a) ∧ (∃ a : Nat, 1 ≤ a ∧ a ≤ 200 ∧ z 9 = nI a) ∧ ∃ a : Nat, a ≤ 5 ∧ z 10 = nI a) ∧
  (∀ v, v < nv → (∃ a : Nat, a ≤ 19 ∧ z (11 + 7 * v + 0) = nI a) ∧ (∃ a : Nat, a ≤ 3 ∧ z (11 + 7 * v + 3) = nI a) ∧ (∃ a : Nat, a ≤ 200 ∧ z (11 + 7 * v + 4) = nI a) ∧ (∃ a : Nat, a ≤ nc ∧ z (11 + 7 * v + 5) = nI a) ∧ ∃ a : Nat, a ≤ 96 ∧ z (11 + 7 * v + 6) = nI a) ∧
  (∀ v v', v < nv → v' < nv → z (11 + 7 * v + 5) = z (11 + 7 * v' + 5) → ¬ z (11 + 7 * v + 5) = nI 0 → v = v') ∧
  (∀ v k, v < 12 → k < 40 → ∃ a : Nat, a ≤ 2 ∧ z (423 + 3 * (40 * v + k) + 0) = nI a) ∧
  (∀ v w, nv ≤ v → v < 12 → w < 7 → z (11 + 7 * v + w) = nI 0) ∧ (∀ v k w, nv ≤ v → v < 12 → k < 40 → w < 3 → z (423 + 3 * (40 * v + k) + w) = nI 0) ∧
  (∀ c, c < nc → (∃ a : Nat, a ≤ 2 ∧ z (95 + 4 * c + 1) = nI a) ∧ (∃ a : Nat, a ≤ 35 ∧ z (95 + 4 * c + 2) = nI a) ∧ (vo z (nI c) nv = none → z (95 + 4 * c + 2) = nI 0)) ∧
  (∀ c w, nc ≤ c → c < 4 → w < 4 → z (95 + 4 * c + w) = nI 0) ∧
  (∀ r, r < 3 → (∃ a : Nat, a ≤ 19 ∧ z (111 + 4 * r + 0) = nI a) ∧ ∃ a : Nat, a ≤ 96 ∧ z (111 + 4 * r + 1) = nI a) ∧
  (∀ r w, nr ≤ r → r < 3 → w < 4 → z (111 + 4 * r + w) = nI 0)
theorem WZ.zi {z : Nat → Int32} {nv nc nr ne : Nat} (h : WZ z nv nc nr ne) : ZI z nv nc nr ne := h.1
theorem WZ.nv {z : Nat → Int32} {nv nc nr ne : Nat} (h : WZ z nv nc nr ne) : z 0 = nI nv ∧ nv ≤ 12 := h.1.1
theorem WZ.nc {z : Nat → Int32} {nv nc nr ne : Nat} (h : WZ z nv nc nr ne) : z 1 = nI nc ∧ nc ≤ 4 := h.1.2.1
theorem WZ.nr {z : Nat → Int32} {nv nc nr ne : Nat} (h : WZ z nv nc nr ne) : z 2 = nI nr ∧ nr ≤ 3 := h.1.2.2.1
theorem WZ.ne {z : Nat → Int32} {nv nc nr ne : Nat} (h : WZ z nv nc nr ne) : z 5 = nI ne ∧ ne ≤ 60 := h.1.2.2.2.1
theorem WZ.lv {z : Nat → Int32} {nv nc nr ne : Nat} (h : WZ z nv nc nr ne) : LV z nv := h.1.2.2.2.2
theorem WZ.min {z : Nat → Int32} {nv nc nr ne : Nat} (h : WZ z nv nc nr ne) : ∃ t : Nat, z 3 = nI t := h.2.1
theorem WZ.s0 {z : Nat → Int32} {nv nc nr ne : Nat} (h : WZ z nv nc nr ne) : ∃ a : Nat, 1 ≤ a ∧ a ≤ 9 ∧ z 7 = nI a := h.2.2.1.1
theorem WZ.s1 {z : Nat → Int32} {nv nc nr ne : Nat} (h : WZ z nv nc nr ne) : ∃ a : Nat, a ≤ 9 ∧ z 8 = nI a := h.2.2.1.2.1
theorem WZ.s2 {z : Nat → Int32} {nv nc nr ne : Nat} (h : WZ z nv nc nr ne) : ∃ a : Nat, 1 ≤ a ∧ a ≤ 200 ∧ z 9 = nI a := h.2.2.1.2.2.1
theorem WZ.s3 {z : Nat → Int32} {nv nc nr ne : Nat} (h : WZ z nv nc nr ne) : ∃ a : Nat, a ≤ 5 ∧ z 10 = nI a := h.2.2.1.2.2.2
theorem WZ.vol {z : Nat → Int32} {nv nc nr ne : Nat} (h : WZ z nv nc nr ne) : ∀ v, v < nv → (∃ a : Nat, a ≤ 19 ∧ z (11 + 7 * v + 0) = nI a) ∧ (∃ a : Nat, a ≤ 3 ∧ z (11 + 7 * v + 3) = nI a) ∧ (∃ a : Nat, a ≤ 200 ∧ z (11 + 7 * v + 4) = nI a) ∧ (∃ a : Nat, a ≤ nc ∧ z (11 + 7 * v + 5) = nI a) ∧ ∃ a : Nat, a ≤ 96 ∧ z (11 + 7 * v + 6) = nI a := h.2.2.2.1
theorem WZ.uni {z : Nat → Int32} {nv nc nr ne : Nat} (h : WZ z nv nc nr ne) : ∀ v v', v < nv → v' < nv → z (11 + 7 * v + 5) = z (11 + 7 * v' + 5) → ¬ z (11 + 7 * v + 5) = nI 0 → v = v' := h.2.2.2.2.1
theorem WZ.leaf {z : Nat → Int32} {nv nc nr ne : Nat} (h : WZ z nv nc nr ne) : ∀ v k, v < 12 → k < 40 → ∃ a : Nat, a ≤ 2 ∧ z (423 + 3 * (40 * v + k) + 0) = nI a := h.2.2.2.2.2.1
theorem WZ.vol0 {z : Nat → Int32} {nv nc nr ne : Nat} (h : WZ z nv nc nr ne) : ∀ v w, nv ≤ v → v < 12 → w < 7 → z (11 + 7 * v + w) = nI 0 := h.2.2.2.2.2.2.1
theorem WZ.leaf0 {z : Nat → Int32} {nv nc nr ne : Nat} (h : WZ z nv nc nr ne) : ∀ v k w, nv ≤ v → v < 12 → k < 40 → w < 3 → z (423 + 3 * (40 * v + k) + w) = nI 0 := h.2.2.2.2.2.2.2.1
theorem WZ.cra {z : Nat → Int32} {nv nc nr ne : Nat} (h : WZ z nv nc nr ne) : ∀ c, c < nc → (∃ a : Nat, a ≤ 2 ∧ z (95 + 4 * c + 1) = nI a) ∧ (∃ a : Nat, a ≤ 35 ∧ z (95 + 4 * c + 2) = nI a) ∧ (vo z (nI c) nv = none → z (95 + 4 * c + 2) = nI 0) := h.2.2.2.2.2.2.2.2.1
theorem WZ.cra0 {z : Nat → Int32} {nv nc nr ne : Nat} (h : WZ z nv nc nr ne) : ∀ c w, nc ≤ c → c < 4 → w < 4 → z (95 + 4 * c + w) = nI 0 := h.2.2.2.2.2.2.2.2.2.1
theorem WZ.car {z : Nat → Int32} {nv nc nr ne : Nat} (h : WZ z nv nc nr ne) : ∀ r, r < 3 → (∃ a : Nat, a ≤ 19 ∧ z (111 + 4 * r + 0) = nI a) ∧ ∃ a : Nat, a ≤ 96 ∧ z (111 + 4 * r + 1) = nI a := h.2.2.2.2.2.2.2.2.2.2.1
theorem WZ.car0 {z : Nat → Int32} {nv nc nr ne : Nat} (h : WZ z nv nc nr ne) : ∀ r w, nr ≤ r → r < 3 → w < 4 → z (111 + 4 * r + w) = nI 0 := h.2.2.2.2.2.2.2.2.2.2.2
/-- the class's tables hold the reference's cells -/
def RT (T : Nat → Nat → Int32) (z : Nat → Int32) (nv nc : Nat) : Prop :=
  (∀ k, k < 11 → T 5 k = z k) ∧
  (∀ v w, v < 12 → w < 7 → w ≠ 5 → T 0 (v * 7 + w) = z (11 + 7 * v + w)) ∧
  (∀ v, v < nv → T 0 (v * 7 + 5) = z (11 + 7 * v + 5) - nI 1) ∧ (∀ v, nv ≤ v → v < 12 → T 0 (v * 7 + 5) = nI 0) ∧
  (∀ v k w, v < 12 → k < 40 → w < 3 → T 1 (v * 120 + (k * 3 + w)) = z (423 + 3 * (40 * v + k) + w)) ∧
  (∀ c, c < 4 → T 2 (c * 5 + 0) = z (95 + 4 * c + 0) ∧ T 2 (c * 5 + 1) = z (95 + 4 * c + 1) ∧ T 2 (c * 5 + 3) = z (95 + 4 * c + 2) ∧ T 2 (c * 5 + 4) = z (95 + 4 * c + 3)) ∧
  (∀ c, c < nc → T 2 (c * 5 + 2) = oI (vo z (nI c) nv)) ∧ (∀ c, nc ≤ c → c < 4 → T 2 (c * 5 + 2) = nI 0) ∧
  (∀ r w, r < 3 → w < 4 → T 3 (r * 4 + w) = z (111 + 4 * r + w)) ∧ (∀ e w, e < 60 → w < 5 → T 4 (e * 5 + w) = z (123 + 5 * e + w))
theorem RT.num {T : Nat → Nat → Int32} {z : Nat → Int32} {nv nc : Nat} (h : RT T z nv nc) : ∀ k, k < 11 → T 5 k = z k := h.1
theorem RT.vol {T : Nat → Nat → Int32} {z : Nat → Int32} {nv nc : Nat} (h : RT T z nv nc) : ∀ v w, v < 12 → w < 7 → w ≠ 5 → T 0 (v * 7 + w) = z (11 + 7 * v + w) := h.2.1
theorem RT.pl {T : Nat → Nat → Int32} {z : Nat → Int32} {nv nc : Nat} (h : RT T z nv nc) : ∀ v, v < nv → T 0 (v * 7 + 5) = z (11 + 7 * v + 5) - nI 1 := h.2.2.1
theorem RT.pl0 {T : Nat → Nat → Int32} {z : Nat → Int32} {nv nc : Nat} (h : RT T z nv nc) : ∀ v, nv ≤ v → v < 12 → T 0 (v * 7 + 5) = nI 0 := h.2.2.2.1
theorem RT.leaf {T : Nat → Nat → Int32} {z : Nat → Int32} {nv nc : Nat} (h : RT T z nv nc) : ∀ v k w, v < 12 → k < 40 → w < 3 → T 1 (v * 120 + (k * 3 + w)) = z (423 + 3 * (40 * v + k) + w) := h.2.2.2.2.1
theorem RT.cra {T : Nat → Nat → Int32} {z : Nat → Int32} {nv nc : Nat} (h : RT T z nv nc) : ∀ c, c < 4 → T 2 (c * 5 + 0) = z (95 + 4 * c + 0) ∧ T 2 (c * 5 + 1) = z (95 + 4 * c + 1) ∧ T 2 (c * 5 + 3) = z (95 + 4 * c + 2) ∧ T 2 (c * 5 + 4) = z (95 + 4 * c + 3) := h.2.2.2.2.2.1
theorem RT.held {T : Nat → Nat → Int32} {z : Nat → Int32} {nv nc : Nat} (h : RT T z nv nc) : ∀ c, c < nc → T 2 (c * 5 + 2) = oI (vo z (nI c) nv) := h.2.2.2.2.2.2.1
theorem RT.held0 {T : Nat → Nat → Int32} {z : Nat → Int32} {nv nc : Nat} (h : RT T z nv nc) : ∀ c, nc ≤ c → c < 4 → T 2 (c * 5 + 2) = nI 0 := h.2.2.2.2.2.2.2.1
theorem RT.car {T : Nat → Nat → Int32} {z : Nat → Int32} {nv nc : Nat} (h : RT T z nv nc) : ∀ r w, r < 3 → w < 4 → T 3 (r * 4 + w) = z (111 + 4 * r + w) := h.2.2.2.2.2.2.2.2.1
theorem RT.ent {T : Nat → Nat → Int32} {z : Nat → Int32} {nv nc : Nat} (h : RT T z nv nc) : ∀ e w, e < 60 → w < 5 → T 4 (e * 5 + w) = z (123 + 5 * e + w) := h.2.2.2.2.2.2.2.2.2
theorem lt_eq {T : Nat → Nat → Int32} {z : Nat → Int32} {nv nc v : Nat} (h : RT T z nv nc) (hv : v < 12) : lt T v = lv z v := by
  unfold lt lv
  rw [h.vol v 2 hv (by omega) (by omega)]
theorem oI_QI {o : Option Nat} {n : Nat} (h : ∀ q, o = some q → q < n) : QI n (oI o) := by
  cases o with
  | none => exact Or.inl rfl
  | some q => exact Or.inr ⟨q, h q rfl, rfl⟩
theorem TI_RT {T : Nat → Nat → Int32} {z : Nat → Int32} {nv nc nr ne : Nat} (h : RT T z nv nc) (w : WZ z nv nc nr ne) : TI T nv nc nr ne := by
  refine ⟨⟨(h.num 0 (by omega)).trans w.nv.1, w.nv.2⟩, ⟨(h.num 1 (by omega)).trans w.nc.1, w.nc.2⟩, ⟨(h.num 2 (by omega)).trans w.nr.1, w.nr.2⟩, ⟨(h.num 5 (by omega)).trans w.ne.1, w.ne.2⟩, fun v hv => ?_, fun c hc => ?_⟩
  · unfold HLv
    rw [lt_eq h hv, h.vol v 2 hv (by omega) (by omega)]
    by_cases h1 : v < nv
    · exact w.lv v h1
    · have e := w.vol0 v 2 (by omega) hv (by omega)
      have e2 : lv z v = 0 := by unfold lv; rw [e]; rfl
      rw [e2, e]
      exact ⟨rfl, by omega⟩
  · by_cases h1 : c < nc
    · rw [h.held c h1]
      exact oI_QI fun q hq => by have := (vo_some hq).1; have := w.nv.2; omega
    · rw [h.held0 c (by omega) hc]
      exact Or.inr ⟨0, by omega, rfl⟩
/-! reads of leaves -/
theorem nlW_some {T : Nat → Nat → Int32} {v : Nat} : ∀ (f j q : Nat), j + f ≤ 1000 → q < 1000 → W_0nextLeaf_4 v T f j (nI q) = match fi (fun k => T 1 (v * 120 + ((k * 3) + 0)) = nI 2) f j with
    | some k => nI k
    | none => nI q
  | 0, j, q, _, _ => rfl
  | f + 1, j, q, hj, hq => by
    unfold W_0nextLeaf_4 fi
    split
    · rfl
    · have ih := nlW_some (T := T) (v := v) f (j + 1) q (by omega) hq
      split
      · rw [if_neg (nI_m1 (by omega))]
        exact ih
      · exact ih
theorem nlW {T : Nat → Nat → Int32} {v : Nat} : ∀ (f j : Nat), j + f ≤ 1000 → W_0nextLeaf_4 v T f j (-1) = oI (nlB (fun k => T 1 (v * 120 + ((k * 3) + 0))) f j)
  | 0, j, _ => rfl
  | f + 1, j, hj => by
    have ih := nlW (T := T) (v := v) f (j + 1) (by omega)
    unfold W_0nextLeaf_4
    split
    · rename_i h2
      rw [nlB_2 (f := fun k => T 1 (v * 120 + ((k * 3) + 0))) h2]
      rfl
    · rename_i h2
      split
      · rename_i h0
        rw [if_pos rfl, nlW_some f (j + 1) j (by omega) (by omega)]
        have h0' : (fun k => T 1 (v * 120 + ((k * 3) + 0))) j = nI 0 := h0
        cases hf : fi (fun k => T 1 (v * 120 + ((k * 3) + 0)) = nI 2) f (j + 1) with
        | some k =>
          have e1 : nlB (fun k => T 1 (v * 120 + ((k * 3) + 0))) f (j + 1) = some k := by unfold nlB; rw [hf]
          have hk := (fi_some hf).2.2
          rw [nlB_k2 (f := fun k => T 1 (v * 120 + ((k * 3) + 0))) h0' e1 (by show ¬ T 1 (v * 120 + ((k * 3) + 0)) = nI 0; rw [hk]; decide)]
          rfl
        | none =>
          cases hg : nlB (fun k => T 1 (v * 120 + ((k * 3) + 0))) f (j + 1) with
          | none => rw [nlB_0a (f := fun k => T 1 (v * 120 + ((k * 3) + 0))) h0' hg]; rfl
          | some k =>
            have e1 : T 1 (v * 120 + ((k * 3) + 0)) = nI 0 := by
              unfold nlB at hg
              rw [hf] at hg
              exact (fi_some hg).2.2
            rw [nlB_0b (f := fun k => T 1 (v * 120 + ((k * 3) + 0))) h0' hg e1]
            rfl
      · rename_i h0
        rw [nlB_k1 (f := fun k => T 1 (v * 120 + ((k * 3) + 0))) h2 h0]
        exact ih
section LEAVES
variable {T : Nat → Nat → Int32} {z : Nat → Int32} {nv nc nr ne v : Nat}
theorem e_nextLeaf (h : RT T z nv nc) (w : WZ z nv nc nr ne) (hv : v < nv) : F_0nextLeaf v T = oI (nlO z v (lv z v)) := by
  have h12 := w.nv.2
  have h40 := (w.lv v hv).2
  unfold F_0nextLeaf
  rw [lt_eq h (by omega), nlW _ _ (by omega)]
  congr 1
  exact nlB_congr fun j _ hj => h.leaf v j 0 (by omega) (by omega) (by omega)
theorem e_isOpen (h : RT T z nv nc) {k : Nat} (hv : v < 12) (hk : k < 40) : F_0isOpen v k T = F_5isOpen v k z := by
  unfold F_0isOpen F_5isOpen
  rw [h.leaf v k 0 hv hk (by omega), h.leaf v k 2 hv hk (by omega), h.num 4 (by omega)]
theorem e_open (h : RT T z nv nc) (hv : v < 12) : ∀ j : Nat, j ≤ 40 → L_0openLeaves_4 v T j = L_5open_4 v z j
  | 0, _ => rfl
  | j + 1, hj => by
    show B_0openLeaves_4 v T j (L_0openLeaves_4 v T j) = B_5open_4 v z j (L_5open_4 v z j)
    unfold B_0openLeaves_4 B_5open_4
    rw [e_open h hv j (by omega), e_isOpen h hv (by omega), i_a0]
theorem e_with (h : RT T z nv nc) (hv : v < 12) (how : Int32) : ∀ j : Nat, j ≤ 40 → L_0leavesInCondition_5 v how T j = L_5leavesWith_5 v how z j
  | 0, _ => rfl
  | j + 1, hj => by
    show B_0leavesInCondition_5 v how T j (L_0leavesInCondition_5 v how T j) = B_5leavesWith_5 v how z j (L_5leavesWith_5 v how z j)
    unfold B_0leavesInCondition_5 B_5leavesWith_5
    rw [e_with h hv how j (by omega), h.leaf v j 0 hv (by omega) (by omega), i_a0]
theorem e_scans (h : RT T z nv nc) (hv : v < 12) : ∀ j : Nat, j ≤ 40 → L_0scansOf_4 v T j = L_5scanned_4 v z j
  | 0, _ => rfl
  | j + 1, hj => by
    show B_0scansOf_4 v T j (L_0scansOf_4 v T j) = B_5scanned_4 v z j (L_5scanned_4 v z j)
    unfold B_0scansOf_4 B_5scanned_4
    rw [e_scans h hv j (by omega), h.leaf v j 1 hv (by omega) (by omega)]
theorem e_barred (h : RT T z nv nc) (hv : v < 12) : ∀ j : Nat, j ≤ 40 → L_0barredLeaves_4 v T j = L_5barred_4 v z j
  | 0, _ => rfl
  | j + 1, hj => by
    show B_0barredLeaves_4 v T j (L_0barredLeaves_4 v T j) = B_5barred_4 v z j (L_5barred_4 v z j)
    unfold B_0barredLeaves_4 B_5barred_4
    rw [e_barred h hv j (by omega), h.leaf v j 2 hv (by omega) (by omega), i_a0]
theorem e_volume (h : RT T z nv nc) (w : WZ z nv nc nr ne) (hv : v < nv) {q : Nat} (hq : q < 12) : F_0volumeFact v q T = F_5volumeNow v q z := by
  have h12 := w.nv.2
  have h40 := (w.lv v hv).2
  unfold F_0volumeFact F_5volumeNow
  rw [lt_eq h (by omega), e_with h (by omega) _ _ h40, e_with h (by omega) _ _ h40, e_open h (by omega) _ h40, e_scans h (by omega) _ h40, e_nextLeaf h w hv]
  by_cases h5 : q = 5
  · subst h5
    rw [if_neg (by omega), if_neg (by omega), if_neg (by omega), if_neg (by omega), if_neg (by omega), if_pos rfl]
    exact h.pl v hv
  · rw [if_neg h5]
    by_cases h6 : q = 6
    · subst h6
      rw [if_neg (by omega), if_neg (by omega), if_neg (by omega), if_neg (by omega), if_neg (by omega), if_pos rfl]
      exact h.vol v 6 (by omega) (by omega) (by omega)
    · rw [if_neg h6]
      split
      · rfl
      · split
        · rfl
        · split
          · rfl
          · split
            · rfl
            · split
              · rfl
              · exact h.vol v q (by omega) (by omega) h5
theorem e_leaf (h : RT T z nv nc) (hv : v < 12) {k q : Nat} (hk : k < 40) (hq : q < 4) : F_0leafFact v k q T = F_5leafNow v k q z := by
  unfold F_0leafFact F_5leafNow
  rw [e_isOpen h hv hk]
  by_cases h3 : q = 3
  · rw [if_pos h3, if_pos (show 3 ≤ q by omega)]
  · rw [if_neg h3, if_neg (show ¬ 3 ≤ q by omega)]
    exact h.leaf v k q hv hk (by omega)
end LEAVES
