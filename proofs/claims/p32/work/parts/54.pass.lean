/-! MINUTES in the class: they leave what the reference's minutes leave -/
theorem cnt_le (r : Nat → Int32) : ∀ n : Nat, cnt r n ≤ n
  | 0 => Nat.le_refl 0
  | n + 1 => by
    have := cnt_le r n
    unfold cnt
    split <;> omega
theorem wf_it {T : Nat → Nat → Int32} {c v a0 a1 b2 g k : Nat} (h : HLv T v) (ha0 : a0 ≤ 9) (ha1 : a1 ≤ 9) (hb : b2 ≤ 200) (hg : g ≤ 2) (e7 : T 5 7 = nI a0) (e8 : T 5 8 = nI a1) (e9 : T 5 9 = nI b2) (eg : T 2 (c * 5 + 1) = nI g) (hr : RB (gT T c v)) (hk : k < 10000) :
    ∃ u : Nat, u ≤ k ∧ u ≤ 1480 ∧ F_0workFor c v (nI k) T = nI u ∧ gT (F_0workFor_T c v (nI k) T) c v = it (nI a0) (nI a1) (nI b2) (nI g) (lt T v) (gT T c v) k ∧ (∀ t, t < u → alive (nI g) (lt T v) (it (nI a0) (nI a1) (nI b2) (nI g) (lt T v) (gT T c v) t)) ∧ (u = k ∨ ¬ alive (nI g) (lt T v) (it (nI a0) (nI a1) (nI b2) (nI g) (lt T v) (gT T c v) u)) := by
  have hc := cnt_le (gT T c v) (lt T v)
  have h40 := h.2
  obtain ⟨h1, h2⟩ := W_jm (c := c) (v := v) (m := nI k) 40 0 (nI 0) T h
  obtain ⟨u, u1, u2, u3, u4, u5⟩ := jm_it (n := lt T v) ha0 ha1 hb hg hk 40 0 (gT T c v) (by omega) hr (by omega)
  rw [e7, e8, e9, eg, u2] at h1 h2
  refine ⟨u, by omega, by omega, ?_, h2, u4, u5⟩
  show (W_0workFor_6 c v (nI k) 40 0 (nI 0) T).1 = _
  rw [h1, Nat.zero_add]
theorem wf_neg {T : Nat → Nat → Int32} {c v : Nat} {m : Int32} (h : m ≤ nI 0) : F_0workFor c v m T = nI 0 ∧ F_0workFor_T c v m T = T := by
  unfold F_0workFor F_0workFor_T W_0workFor_6
  rw [if_pos h]
  exact ⟨rfl, rfl⟩
theorem sub_neg {m a : Nat} (h : m ≤ a) (ha : a < 10000) : nI m - nI a ≤ nI 0 := by
  rw [Int32.le_iff_toInt_le, pk_sub_toInt (by omega) (by omega), nI_toInt (by omega)]
  omega
theorem max0 {a m : Nat} (ha : a < 10000) (hm : m < 10000) : (if nI 0 < nI a - nI m then nI a - nI m else nI 0) = nI (a - m) := by
  by_cases h : m ≤ a
  · rw [pk_sub h]
    by_cases h0 : nI 0 < nI (a - m)
    · rw [if_pos h0]
    · rw [if_neg h0]
      have := mt (nI_ltI (a := 0) (b := a - m) (by omega) (by omega)).mpr h0
      rw [show a - m = 0 by omega]
  · have := sub_neg (m := a) (a := m) (by omega) hm
    rw [if_neg (Int32.not_lt.mpr this), show a - m = 0 by omega]
theorem gT_FR {T T' : Nat → Nat → Int32} {c v c' v' : Nat} (h : FR c v T T') (h1 : c' ≠ c) (h2 : v' ≠ v) : gT T' c' v' = gT T c' v' := by
  obtain ⟨-, h0, h1', h2'⟩ := h
  funext i
  match i with
  | 0 => exact h2' _ (by omega) (by omega)
  | 1 => exact h2' _ (by omega) (by omega)
  | 2 => exact h0 _ (by omega) (by omega)
  | 3 => exact h0 _ (by omega) (by omega)
  | q + 4 =>
    show (if q < 120 then _ else _) = if q < 120 then _ else _
    by_cases hq : q < 120
    · rw [if_pos hq, if_pos hq, h1' _ (by omega)]
    · rw [if_neg hq, if_neg hq]
/-- scans over the cradles -/
def ST (T : Nat → Nat → Int32) : Nat → Int32
  | 0 => 0
  | j + 1 => ST T j + T 2 (j * 5 + 4)
theorem ST_s (T : Nat → Nat → Int32) (j : Nat) : ST T (j + 1) = ST T j + T 2 (j * 5 + 4) := rfl
theorem ST_congr {T T' : Nat → Nat → Int32} : ∀ j : Nat, (∀ c, c < j → T' 2 (c * 5 + 4) = T 2 (c * 5 + 4)) → ST T' j = ST T j
  | 0, _ => rfl
  | j + 1, h => by
    rw [ST_s, ST_s, ST_congr j (fun c hc => h c (by omega)), h j (by omega)]
/-- what the cradles in P may write -/
def FRP (P : Nat → Nat → Prop) (T T' : Nat → Nat → Int32) : Prop := (∀ j, j ≠ 0 → j ≠ 1 → j ≠ 2 → T' j = T j) ∧ (∀ i, (∀ c v, P c v → i ≠ v * 7 + 3 ∧ i ≠ v * 7 + 4) → T' 0 i = T 0 i) ∧ (∀ i, (∀ c v, P c v → i < v * 120 ∨ v * 120 + 120 ≤ i) → T' 1 i = T 1 i) ∧ ∀ i, (∀ c v, P c v → i ≠ c * 5 + 3 ∧ i ≠ c * 5 + 4) → T' 2 i = T 2 i
theorem FRP.step {P Q : Nat → Nat → Prop} {T T' T'' : Nat → Nat → Int32} {c v : Nat} (h : FRP P T T') (g : FR c v T' T'') (hP : ∀ c v, P c v → Q c v) (hQ : Q c v) : FRP Q T T'' :=
  ⟨fun j a b e => (g.1 j a b e).trans (h.1 j a b e), fun i a => (g.2.1 i (a c v hQ).1 (a c v hQ).2).trans (h.2.1 i fun c v p => a c v (hP c v p)), fun i a => (g.2.2.1 i (a c v hQ)).trans (h.2.2.1 i fun c v p => a c v (hP c v p)), fun i a => (g.2.2.2 i (a c v hQ).1 (a c v hQ).2).trans (h.2.2.2 i fun c v p => a c v (hP c v p))⟩
theorem FRP.mono {P Q : Nat → Nat → Prop} {T T' : Nat → Nat → Int32} (h : FRP P T T') (hP : ∀ c v, P c v → Q c v) : FRP Q T T' :=
  ⟨h.1, fun i a => h.2.1 i fun c v p => a c v (hP c v p), fun i a => h.2.2.1 i fun c v p => a c v (hP c v p), fun i a => h.2.2.2 i fun c v p => a c v (hP c v p)⟩
theorem gT_FRP {P : Nat → Nat → Prop} {T T' : Nat → Nat → Int32} {c' v' : Nat} (h : FRP P T T') (h1 : ∀ c v, P c v → c ≠ c' ∧ v ≠ v') : gT T' c' v' = gT T c' v' := by
  obtain ⟨-, h0, h1', h2'⟩ := h
  funext i
  match i with
  | 0 => exact h2' _ fun c v p => by have := h1 c v p; omega
  | 1 => exact h2' _ fun c v p => by have := h1 c v p; omega
  | 2 => exact h0 _ fun c v p => by have := h1 c v p; omega
  | 3 => exact h0 _ fun c v p => by have := h1 c v p; omega
  | q + 4 =>
    show (if q < 120 then _ else _) = if q < 120 then _ else _
    by_cases hq : q < 120
    · rw [if_pos hq, if_pos hq, h1' _ fun c v p => by have := h1 c v p; omega]
    · rw [if_neg hq, if_neg hq]
section PASS
variable {T : Nat → Nat → Int32} {z : Nat → Int32} {nv nc nr ne m : Nat}
theorem isFree_n {T : Nat → Nat → Int32} {c : Nat} (h : T 2 (c * 5 + 2) = -1) : ¬ F_0isFree c T = 0 := by
  unfold F_0isFree
  rw [if_pos h]
  decide
theorem isFree_s {T : Nat → Nat → Int32} {c v : Nat} (h : T 2 (c * 5 + 2) = nI v) (hv : v < 12) : F_0isFree c T = 0 := by
  unfold F_0isFree
  rw [if_neg (by rw [h]; exact nI_m1 (by omega))]
  rfl
theorem ps4 (h : RT T z nv nc) (w : WZ z nv nc nr ne) (hm : m < 10000) : ∀ j : Nat, j ≤ nc →
    FRP (fun c v => c < j ∧ vo z (nI c) nv = some v) T (L_0letMinutesPass_4 (nI m) T j).2 ∧
    (∀ c v a, c < j → vo z (nI c) nv = some v → a < 1000 → z (11 + 7 * v + 6) = nI a → gT (L_0letMinutesPass_4 (nI m) T j).2 c v = it (z 7) (z 8) (z 9) (z (95 + 4 * c + 1)) (lv z v) (gZ z c v) (m - a)) ∧
    (L_0letMinutesPass_4 (nI m) T j).1 = ST (L_0letMinutesPass_4 (nI m) T j).2 j - ST T j
  | 0, _ => ⟨⟨fun _ _ _ _ => rfl, fun _ _ => rfl, fun _ _ => rfl, fun _ _ => rfl⟩, fun c v a hc => by omega, by show nI 0 = (0 : Int32) - 0; rfl⟩
  | j + 1, hj => by
    obtain ⟨hF, hG, hS⟩ := ps4 h w hm j (by omega)
    have h12 := w.nv.2
    have h4 := w.nc.2
    have hT' : TI (L_0letMinutesPass_4 (nI m) T j).2 nv nc nr ne := TI_lp4 (TI_RT h w) h4 j (by omega)
    show FRP _ T (B_0letMinutesPass_4 (nI m) j (L_0letMinutesPass_4 (nI m) T j).1 (L_0letMinutesPass_4 (nI m) T j).2).2 ∧ (∀ c v a, _ → _ → _ → _ → gT (B_0letMinutesPass_4 (nI m) j (L_0letMinutesPass_4 (nI m) T j).1 (L_0letMinutesPass_4 (nI m) T j).2).2 c v = _) ∧ (B_0letMinutesPass_4 (nI m) j (L_0letMinutesPass_4 (nI m) T j).1 (L_0letMinutesPass_4 (nI m) T j).2).1 = ST (B_0letMinutesPass_4 (nI m) j (L_0letMinutesPass_4 (nI m) T j).1 (L_0letMinutesPass_4 (nI m) T j).2).2 (j + 1) - ST T (j + 1)
    generalize L_0letMinutesPass_4 (nI m) T j = X at hF hG hS hT'
    obtain ⟨x, Y⟩ := X
    dsimp only at hF hG hS hT' ⊢
    have e2 : Y 2 (j * 5 + 2) = oI (vo z (nI j) nv) := (hF.2.2.2 _ fun c v p => by omega).trans (h.held j (by omega))
    have e4 : Y 2 (j * 5 + 4) = T 2 (j * 5 + 4) := hF.2.2.2 _ fun c v p => by have := p.1; omega
    unfold B_0letMinutesPass_4
    cases hv : vo z (nI j) nv with
    | none =>
      rw [hv] at e2
      rw [if_neg (isFree_n e2)]
      refine ⟨hF.mono fun c v p => ⟨by omega, p.2⟩, fun c v a hc hcv ha ea => ?_, ?_⟩
      · have : c ≠ j := fun e => by
          rw [e, hv] at hcv
          cases hcv
        exact hG c v a (by omega) hcv ha ea
      · show x + (Y 2 (j * 5 + 4) - Y 2 (j * 5 + 4)) = ST Y (j + 1) - ST T (j + 1)
        rw [ST_s, ST_s, hS, e4, i_sub4]
    | some v =>
      have hvn := vo_lt hv
      rw [hv] at e2
      have e2' : Y 2 (j * 5 + 2) = nI v := e2
      rw [if_pos (isFree_s e2' (by omega))]
      dsimp only
      rw [e2', cl_nI (by omega)]
      obtain ⟨a, ha, ea⟩ := (w.vol v hvn).2.2.2.2
      have e6 : Y 0 (v * 7 + 6) = nI a := ((hF.2.1 _ fun c v p => by omega).trans (h.vol v 6 (by omega) (by omega) (by omega))).trans ea
      have hH : HLv Y v := hT'.2.2.2.2.1 v (by omega)
      have hrec : gT Y j v = gZ z j v := (gT_FRP hF fun c v' p => ⟨by omega, fun e => by
        have := p.2
        rw [e] at this
        have := vo_c (by omega) (by omega) this hv
        omega⟩).trans (gT_gZ h (by omega) (by omega))
      have e5 : Y 5 = T 5 := hF.1 5 (by decide) (by decide) (by decide)
      obtain ⟨s0, hs01, hs0, es0⟩ := w.s0
      obtain ⟨s1, hs1, es1⟩ := w.s1
      obtain ⟨s2, hs21, hs2, es2⟩ := w.s2
      obtain ⟨g, hg, eg⟩ := (w.cra j (by omega)).1
      have e1 : Y 2 (j * 5 + 1) = nI g := ((hF.2.2.2 _ fun c v p => by omega).trans (h.cra j (by omega)).2.1).trans eg
      have el : lt Y v = lv z v := by
        rw [← lt_eq h (by omega)]
        unfold lt
        rw [hF.2.1 _ fun c v p => by omega]
      have hFR : FR j v Y (F_0workFor_T j v (nI m - Y 0 (v * 7 + 6)) Y) := wf_FR hH
      have hgT : gT (F_0workFor_T j v (nI m - Y 0 (v * 7 + 6)) Y) j v = it (z 7) (z 8) (z 9) (z (95 + 4 * j + 1)) (lv z v) (gZ z j v) (m - a) := by
        rw [e6]
        by_cases hma : a ≤ m
        · obtain ⟨u, -, -, -, hu, -⟩ := wf_it (k := m - a) hH (show s0 ≤ 9 by omega) hs1 hs2 hg (by rw [e5, h.num 7 (by omega), es0]) (by rw [e5, h.num 8 (by omega), es1]) (by rw [e5, h.num 9 (by omega), es2]) e1 (by rw [hrec]; exact (w.RB (by omega) hvn).1) (by omega)
          rw [pk_sub hma, hu, hrec, es0, es1, es2, eg, el]
        · rw [(wf_neg (sub_neg (by omega) (by omega))).2, show m - a = 0 by omega, hrec]
          rfl
      refine ⟨hF.step hFR (fun c v p => ⟨by omega, p.2⟩) ⟨by omega, hv⟩, fun c v' a' hc hcv ha' ea' => ?_, ?_⟩
      · by_cases e : c = j
        · subst e
          rw [hv] at hcv
          cases hcv
          rw [ea] at ea'
          have : a = a' := (nI_eq (by omega) (by omega)).mp ea'
          rw [← this]
          exact hgT
        · rw [← hG c v' a' (by omega) hcv ha' ea']
          exact gT_FR hFR e fun q => by
            rw [q] at hcv
            exact e (vo_c (by omega) (by omega) hcv hv)
      · rw [ST_s, ST_s, hS, e4, ST_congr (T := Y) (T' := F_0workFor_T j v (nI m - Y 0 (v * 7 + 6)) Y) j (fun c hc => hFR.2.2.2 _ (by omega) (by omega)), i_sub4]
theorem ps87 : ∀ j : Nat, (∀ t, t ≠ 3 → L_0letMinutesPass_87 (nI m) nc T j t = (L_0letMinutesPass_4 (nI m) T nc).2 t) ∧ (∀ r, r < j → L_0letMinutesPass_87 (nI m) nc T j 3 (r * 4 + 1) = (if (nI 0) < (L_0letMinutesPass_4 (nI m) T nc).2 3 (r * 4 + 1) - nI m then (L_0letMinutesPass_4 (nI m) T nc).2 3 (r * 4 + 1) - nI m else nI 0)) ∧ ∀ i, (∀ r, r < j → i ≠ r * 4 + 1) → L_0letMinutesPass_87 (nI m) nc T j 3 i = (L_0letMinutesPass_4 (nI m) T nc).2 3 i
  | 0 => ⟨fun _ _ => rfl, fun r h => by omega, fun _ _ => rfl⟩
  | j + 1 => by
    obtain ⟨h0, h1, h2⟩ := ps87 j
    have e : L_0letMinutesPass_87 (nI m) nc T (j + 1) = B_0letMinutesPass_87 (nI m) j (L_0letMinutesPass_87 (nI m) nc T j) := rfl
    rw [e]
    unfold B_0letMinutesPass_87
    refine ⟨fun t ht => by rw [tu_ne ht]; exact h0 t ht, fun r hr => ?_, fun i hi => ?_⟩
    · rw [tu_eq]
      by_cases q : r = j
      · subst q
        rw [upd_eq, h2 _ (by omega)]
      · rw [upd_ne (by omega), h1 r (by omega)]
    · rw [tu_eq, upd_ne (hi j (by omega)), h2 i fun r hr => hi r (by omega)]
theorem ps128 : ∀ j : Nat, (∀ t, t ≠ 0 → L_0letMinutesPass_128 (nI m) nc nr T j t = L_0letMinutesPass_87 (nI m) nc T nr t) ∧ (∀ r, r < j → L_0letMinutesPass_128 (nI m) nc nr T j 0 (r * 7 + 6) = (if (nI 0) < L_0letMinutesPass_87 (nI m) nc T nr 0 (r * 7 + 6) - nI m then L_0letMinutesPass_87 (nI m) nc T nr 0 (r * 7 + 6) - nI m else nI 0)) ∧ ∀ i, (∀ r, r < j → i ≠ r * 7 + 6) → L_0letMinutesPass_128 (nI m) nc nr T j 0 i = L_0letMinutesPass_87 (nI m) nc T nr 0 i
  | 0 => ⟨fun _ _ => rfl, fun r h => by omega, fun _ _ => rfl⟩
  | j + 1 => by
    obtain ⟨h0, h1, h2⟩ := ps128 j
    have e : L_0letMinutesPass_128 (nI m) nc nr T (j + 1) = B_0letMinutesPass_128 (nI m) j (L_0letMinutesPass_128 (nI m) nc nr T j) := rfl
    rw [e]
    unfold B_0letMinutesPass_128
    refine ⟨fun t ht => by rw [tu_ne ht]; exact h0 t ht, fun r hr => ?_, fun i hi => ?_⟩
    · rw [tu_eq]
      by_cases q : r = j
      · subst q
        rw [upd_eq, h2 _ (by omega)]
      · rw [upd_ne (by omega), h1 r (by omega)]
    · rw [tu_eq, upd_ne (hi j (by omega)), h2 i fun r hr => hi r (by omega)]
end PASS
