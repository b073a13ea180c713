/-! reads of cradles, carriers, the log, sums -/
theorem vo_lt {z : Nat → Int32} {c : Int32} {n q : Nat} (h : vo z c n = some q) : q < n := (vo_some h).1
theorem oI_m1 {o : Option Nat} (h : ∀ q, o = some q → q < 1000) : oI o = -1 ↔ o = none := oI_iff fun q hq => by have := h q hq; omega
theorem vo_m1 {z : Nat → Int32} {c : Int32} {n : Nat} (hn : n ≤ 12) : oI (vo z c n) = -1 ↔ vo z c n = none := oI_m1 fun q hq => by have := vo_lt hq; omega
theorem nlO_m1 {z : Nat → Int32} {v n : Nat} (hn : n ≤ 40) : oI (nlO z v n) = -1 ↔ nlO z v n = none := oI_m1 fun q hq => by have := nlB_some hq; omega
theorem cl_nI {q : Nat} (h : q < 2147483648) : (nI q).toNatClampNeg = q := nI_clamp h
theorem gt0_nI {a : Nat} (h : a < 2147483648) : (0 : Int32) < nI a ↔ 0 < a := by
  have := nI_ltI (a := 0) (b := a) (by omega) h
  rw [← nI_0]
  exact this
theorem le0_nI {a : Nat} (h : a < 2147483648) : nI a ≤ (0 : Int32) ↔ a = 0 := by
  have := nI_leI (a := a) (b := 0) h (by omega)
  rw [← nI_0]
  rw [this]
  omega
theorem eq0_nI {a : Nat} (h : a < 2147483648) : nI a = (0 : Int32) ↔ a = 0 := by
  rw [← nI_0]
  exact nI_eq h (by omega)
theorem pl_m1 {a : Nat} (h : a < 1000) : nI a - nI 1 = -1 ↔ a = 0 := by
  cases a with
  | zero => exact ⟨fun _ => rfl, fun _ => by decide⟩
  | succ n =>
    rw [nI_p1]
    exact ⟨fun q => absurd q (nI_m1 (by omega)), fun q => by omega⟩
theorem nlt0 {a : Nat} (h : a < 2147483648) (h0 : a = 0) : ¬ (0 : Int32) < nI a := fun q => by have := (gt0_nI h).mp q; omega
theorem nle0 {a : Nat} (h : a < 2147483648) (h0 : ¬ a = 0) : ¬ nI a ≤ (0 : Int32) := fun q => h0 ((le0_nI h).mp q)
theorem lt0 {a : Nat} (h : a < 2147483648) (h0 : ¬ a = 0) : (0 : Int32) < nI a := (gt0_nI h).mpr (by omega)
theorem le0 {a : Nat} (h : a < 2147483648) (h0 : a = 0) : nI a ≤ (0 : Int32) := (le0_nI h).mpr h0
section CR
variable {T : Nat → Nat → Int32} {z : Nat → Int32} {nv nc nr ne : Nat}
theorem e_isFree (h : RT T z nv nc) (w : WZ z nv nc nr ne) {c : Nat} (hc : c < nc) : F_0isFree c T = if vo z (nI c) nv = none then nI 1 else nI 0 := by
  unfold F_0isFree
  rw [h.held c hc]
  by_cases h1 : vo z (nI c) nv = none
  · rw [if_pos h1, if_pos ((vo_m1 w.nv.2).mpr h1)]
  · rw [if_neg h1, if_neg (fun q => h1 ((vo_m1 w.nv.2).mp q))]
theorem e_gentle (h : RT T z nv nc) {c v : Nat} (hc : c < 4) (hv : v < 12) : F_0isGentleEnough c v T = if z (95 + 4 * c + 1) < z (11 + 7 * v + 3) then nI 0 else nI 1 := by
  unfold F_0isGentleEnough
  rw [(h.cra c hc).2.1, h.vol v 3 hv (by omega) (by omega)]
theorem e_large (h : RT T z nv nc) {c v : Nat} (hc : c < 4) (hv : v < 12) : F_0isLargeEnough c v T = if z (95 + 4 * c + 0) < z (11 + 7 * v + 1) then nI 0 else nI 1 := by
  unfold F_0isLargeEnough
  rw [(h.cra c hc).1, h.vol v 1 hv (by omega) (by omega)]
theorem e_rest (h : RT T z nv nc) (w : WZ z nv nc nr ne) {c : Nat} (hc : c < nc) : F_0reasonOfRest c T = idZ z nv c := by
  have h4 := w.nc.2
  have h12 := w.nv.2
  unfold F_0reasonOfRest idZ
  rw [h.held c hc]
  cases hv : vo z (nI c) nv with
  | none => rw [if_pos (show oI none = -1 from rfl)]
  | some v =>
    have hvn := vo_lt hv
    show (if nI v = -1 then _ else _) = _
    rw [if_neg (nI_m1 (by omega))]
    show (if T 0 ((nI v).toNatClampNeg * 7 + 6) ≤ 0 then (if F_0isGentleEnough c (nI v).toNatClampNeg T = 0 then nI 3 else if F_0nextLeaf (nI v).toNatClampNeg T = -1 then nI 4 else nI 0) else nI 2) = (if 0 < z (11 + 7 * v + 6) then nI 2 else if z (95 + 4 * c + 1) < z (11 + 7 * v + 3) then nI 3 else if nlO z v (lv z v) = none then nI 4 else nI 0)
    rw [cl_nI (by omega), h.vol v 6 (by omega) (by omega) (by omega), e_gentle h (by omega) (by omega), e_nextLeaf h w hvn]
    obtain ⟨a, ha, hz⟩ := (w.vol v hvn).2.2.2.2
    rw [hz]
    by_cases h0 : a = 0
    · rw [if_pos (le0 (a := a) (by omega) h0), if_neg (nlt0 (a := a) (by omega) h0)]
      by_cases hg : z (95 + 4 * c + 1) < z (11 + 7 * v + 3)
      · rw [if_pos hg, if_pos hg]; rfl
      · rw [if_neg hg, if_neg hg]
        show (if oI (nlO z v (lv z v)) = -1 then nI 4 else nI 0) = _
        by_cases hn : nlO z v (lv z v) = none
        · rw [if_pos ((nlO_m1 (w.lv v hvn).2).mpr hn), if_pos hn]
        · rw [if_neg (fun q => hn ((nlO_m1 (w.lv v hvn).2).mp q)), if_neg hn]
    · rw [if_neg (nle0 (a := a) (by omega) h0), if_pos (lt0 (a := a) (by omega) h0)]
theorem e_cradle (h : RT T z nv nc) (w : WZ z nv nc nr ne) {c q : Nat} (hc : c < nc) (hq : q < 6) : F_0cradleFact c q T = F_5cradleNow c q nv z := by
  have h4 := w.nc.2
  obtain ⟨g0, g1, g3, g4⟩ := h.cra c (by omega)
  have g2 := h.held c hc
  have g5 := e_rest h w hc
  obtain rfl | rfl | rfl | rfl | rfl | rfl : q = 0 ∨ q = 1 ∨ q = 2 ∨ q = 3 ∨ q = 4 ∨ q = 5 := by omega
  · exact g0
  · exact g1
  · exact g2
  · exact g3
  · exact g4
  · exact g5
theorem e_reason (h : RT T z nv nc) (w : WZ z nv nc nr ne) {v c r : Nat} (hv : v < nv) (hc : c < nc) (hr : r < nr) : F_0reasonAgainst v c r ne T = rsZ z nv ne v c r := by
  have h4 := w.nc.2
  have h12 := w.nv.2
  have h3 := w.nr.2
  obtain ⟨-, -, -, ⟨a, ha, ea⟩, b, hb, eb⟩ := w.vol v hv
  obtain ⟨-, d, hd, ed⟩ := w.car r (by omega)
  have h60 := w.ne.2
  unfold F_0reasonAgainst rsZ
  rw [h.pl v hv, h.vol v 6 (by omega) (by omega) (by omega), e_nextLeaf h w hv, h.car r 1 (by omega) (by omega), ea, eb, ed]
  by_cases h0 : a = 0
  · rw [if_pos ((pl_m1 (a := a) (by omega)).mpr h0), if_neg (nlt0 (a := a) (by omega) h0)]
    by_cases hb0 : b = 0
    · rw [if_pos (le0 (a := b) (by omega) hb0), if_neg (nlt0 (a := b) (by omega) hb0)]
      have n10 : ¬ nI 1 = (0 : Int32) := by decide
      have z00 : nI 0 = (0 : Int32) := rfl
      have gf := e_isFree h w hc
      have gl := e_large h (c := c) (v := v) (by omega) (by omega)
      have gg := e_gentle h (c := c) (v := v) (by omega) (by omega)
      by_cases hf : vo z (nI c) nv = none
      · rw [if_pos hf] at gf
        rw [gf, if_neg n10, if_neg (show ¬ vo z (nI c) nv ≠ none from fun q => q hf)]
        by_cases hl : z (95 + 4 * c + 0) < z (11 + 7 * v + 1)
        · rw [if_pos hl] at gl
          rw [gl, if_pos z00, if_pos hl]
        · rw [if_neg hl] at gl
          rw [gl, if_neg n10, if_neg hl]
          by_cases hg : z (95 + 4 * c + 1) < z (11 + 7 * v + 3)
          · rw [if_pos hg] at gg
            rw [gg, if_pos z00, if_pos hg]
          · rw [if_neg hg] at gg
            rw [gg, if_neg n10, if_neg hg]
            by_cases hn : nlO z v (lv z v) = none
            · rw [if_pos ((nlO_m1 (w.lv v hv).2).mpr hn), if_pos hn]
            · rw [if_neg (fun q => hn ((nlO_m1 (w.lv v hv).2).mp q)), if_neg hn]
              by_cases hd0 : d = 0
              · rw [if_pos (le0 (a := d) (by omega) hd0), if_neg (nlt0 (a := d) (by omega) hd0)]
                by_cases he : ne = 60
                · rw [if_neg (show ¬ ne < 60 by omega), if_pos he]
                · rw [if_pos (show ne < 60 by omega), if_neg he]
              · rw [if_neg (nle0 (a := d) (by omega) hd0), if_pos (lt0 (a := d) (by omega) hd0)]
      · rw [if_neg hf] at gf
        rw [gf, if_pos z00, if_pos hf]
    · rw [if_neg (nle0 (a := b) (by omega) hb0), if_pos (lt0 (a := b) (by omega) hb0)]
  · rw [if_neg (fun q => h0 ((pl_m1 (a := a) (by omega)).mp q)), if_pos (lt0 (a := a) (by omega) h0)]
theorem e_place (h : RT T z nv nc) (v m : Int32) : ∀ e : Nat, e ≤ 60 → W_0placeAt_8 v m T e = L_5whereNow_5 v m z e
  | 0, _ => rfl
  | e + 1, he => by
    show _ = B_5whereNow_5 v m z e (L_5whereNow_5 v m z e)
    unfold W_0placeAt_8 B_5whereNow_5
    have e0 := h.ent e 0 (by omega) (by omega)
    have e2 := h.ent e 2 (by omega) (by omega)
    have e3 := h.ent e 3 (by omega) (by omega)
    rw [e0, e2, e3, e_place h v m e (by omega)]
    show (if z (123 + 5 * e + 2) = v then if m < z (123 + 5 * e) then _ else _ else _) = _
    by_cases a : z (123 + 5 * e + 2) = v
    · rw [if_pos a, if_pos a]
    · rw [if_neg a, if_neg a]
      split <;> rfl
theorem abs_e (d : Int32) : (if 0 ≤ d then d else 0 - d) = if d < 0 then -d else d := by
  by_cases h : d < 0
  · rw [if_pos h, if_neg (fun q => absurd h (Int32.not_lt.mpr q)), Int32.zero_sub]
  · rw [if_neg h, if_pos (Int32.not_lt.mp h)]
theorem e_way (h : RT T z nv nc) {v r : Nat} (hv : v < 12) (hr : r < 3) : (T 5) 10 * (if 0 ≤ (T 3) (r * 4 + 0) - (T 0) (v * 7 + 0) then (T 3) (r * 4 + 0) - (T 0) (v * 7 + 0) else 0 - ((T 3) (r * 4 + 0) - (T 0) (v * 7 + 0))) + nI 1 = wayZ z v r := by
  unfold wayZ
  rw [h.num 10 (by omega), h.car r 0 hr (by omega), h.vol v 0 hv (by omega) (by omega), abs_e]
theorem e_quick (h : RT T z nv nc) {v : Nat} (hv : v < 12) : ∀ j : Nat, j ≤ 3 → (L_0quickestCarrier_7 v T j).1 = L_5quickestNow_4 v z j ∧ (L_5quickestNow_4 v z j = -1 ∨ ∃ q : Nat, q < 3 ∧ L_5quickestNow_4 v z j = nI q ∧ (L_0quickestCarrier_7 v T j).2 = wayZ z v q)
  | 0, _ => ⟨rfl, Or.inl rfl⟩
  | j + 1, hj => by
    obtain ⟨h1, h2⟩ := e_quick h hv j (by omega)
    show (B_0quickestCarrier_7 v T j (L_0quickestCarrier_7 v T j).1 (L_0quickestCarrier_7 v T j).2).1 = B_5quickestNow_4 v z j (L_5quickestNow_4 v z j) ∧ (B_5quickestNow_4 v z j (L_5quickestNow_4 v z j) = -1 ∨ ∃ q : Nat, q < 3 ∧ B_5quickestNow_4 v z j (L_5quickestNow_4 v z j) = nI q ∧ (B_0quickestCarrier_7 v T j (L_0quickestCarrier_7 v T j).1 (L_0quickestCarrier_7 v T j).2).2 = wayZ z v q)
    unfold B_0quickestCarrier_7 B_5quickestNow_4
    rw [h1, h.car j 1 (by omega) (by omega), e_way h hv (show j < 3 by omega)]
    generalize L_5quickestNow_4 v z j = x at h1 h2 ⊢
    generalize (L_0quickestCarrier_7 v T j).2 = y at h2 ⊢
    by_cases hb : z (111 + 4 * j + 1) = 0
    · rw [if_pos hb, if_pos hb]
      rcases h2 with rfl | ⟨q, hq, rfl, rfl⟩
      · rw [if_pos rfl, if_pos rfl]
        exact ⟨rfl, Or.inr ⟨j, by omega, rfl, rfl⟩⟩
      · rw [if_neg (nI_m1 (by omega)), if_neg (nI_m1 (by omega)), cl_nI (by omega)]
        by_cases hle : wayZ z v q ≤ wayZ z v j
        · rw [if_pos hle, if_pos hle]
          exact ⟨rfl, Or.inr ⟨q, hq, rfl, rfl⟩⟩
        · rw [if_neg hle, if_neg hle]
          exact ⟨rfl, Or.inr ⟨j, by omega, rfl, rfl⟩⟩
    · rw [if_neg hb, if_neg hb]
      exact ⟨rfl, h2⟩
theorem e_sum (h : RT T z nv nc) (w : WZ z nv nc nr ne) {q : Nat} (hq : q < 12) : ∀ j : Nat, j ≤ nv → L_0sumOverVolumes_4 q T j = L_5overAll_4 q z j
  | 0, _ => rfl
  | j + 1, hj => by
    show L_0sumOverVolumes_4 q T j + F_0volumeFact j q T = L_5overAll_4 q z j + F_5volumeNow j q z
    rw [e_sum h w hq j (by omega), e_volume h w (by omega) hq]
theorem e_free (h : RT T z nv nc) (w : WZ z nv nc nr ne) : ∀ j : Nat, j ≤ nc → L_0freeCradles_4 T j = L_5free_4 nv z j
  | 0, _ => rfl
  | j + 1, hj => by
    show B_0freeCradles_4 T j (L_0freeCradles_4 T j) = B_5free_4 nv z j (L_5free_4 nv z j)
    unfold B_0freeCradles_4 B_5free_4
    rw [e_free h w j (by omega), e_isFree h w (show j < nc by omega)]
    by_cases h1 : vo z (nI j) nv = none
    · rw [if_pos h1, if_neg (by decide), if_pos ((vo_m1 w.nv.2).mpr h1)]
    · rw [if_neg h1, if_pos (show nI 0 = (0 : Int32) from rfl), if_neg (fun q => h1 ((vo_m1 w.nv.2).mp q)), i_a0]
theorem e_total (h : RT T z nv nc) (w : WZ z nv nc nr ne) {q : Nat} (hq : q < 14) (sc : Int32) : F_0total q nv nc T sc = F_5counted q nv nc z sc := by
  unfold F_0total F_5counted
  rw [e_sum h w (q := 2) (by omega) nv (Nat.le_refl _), e_sum h w (q := 11) (by omega) nv (Nat.le_refl _), e_free h w nc (Nat.le_refl _), h.num 6 (by omega)]
  by_cases h12 : q < 12
  · rw [e_sum h w h12 nv (Nat.le_refl _)]
    by_cases h11 : q < 11
    · rw [h.num q h11]
    · obtain rfl : q = 11 := by omega
      rfl
  · obtain rfl | rfl : q = 12 ∨ q = 13 := by omega
    · rfl
    · rfl
theorem e_share (h : RT T z nv nc) (w : WZ z nv nc nr ne) (sv : Int32) : F_0shareOfOpenLeaves nv T = F_5openNow nv nc z sv := by
  obtain ⟨a, b, h1, h2, h3, h4⟩ := sums_T (TI_RT h w) nv (Nat.le_refl _)
  have h12 := w.nv.2
  have e2 : F_5counted 6 nv nc z sv = L_0sumOverVolumes_4 2 T nv := (e_sum h w (by omega) nv (Nat.le_refl _)).symm
  have e9 : F_5counted 9 nv nc z sv = L_0sumOverVolumes_4 9 T nv := (e_sum h w (by omega) nv (Nat.le_refl _)).symm
  unfold F_0shareOfOpenLeaves F_5openNow
  rw [e2, e9, h4]
  by_cases hb : b = 0
  · rw [if_neg (nlt0 (a := b) (by omega) hb), if_pos ((eq0_nI (a := b) (by omega)).mpr hb)]
  · rw [if_pos (lt0 (a := b) (by omega) hb), if_neg (fun q => hb ((eq0_nI (a := b) (by omega)).mp q))]
end CR
