/-! WHAT SCANNING WOULD BRING: the class tries it on a row of its own, the reference lets the minutes pass and goes back -/
/-- only the rows for trials differ -/
def TRF (T T' : Nat → Nat → Int32) : Prop := (∀ j, j ≠ 0 → j ≠ 1 → j ≠ 2 → T' j = T j) ∧ (∀ i, i < 84 → T' 0 i = T 0 i) ∧ (∀ i, i < 1440 → T' 1 i = T 1 i) ∧ ∀ i, i < 20 → T' 2 i = T 2 i
theorem TRF.refl (T : Nat → Nat → Int32) : TRF T T := ⟨fun _ _ _ _ => rfl, fun _ _ => rfl, fun _ _ => rfl, fun _ _ => rfl⟩
theorem TRF.trans {T T' T'' : Nat → Nat → Int32} (h : TRF T T') (g : TRF T' T'') : TRF T T'' := ⟨fun j a b e => (g.1 j a b e).trans (h.1 j a b e), fun i a => (g.2.1 i a).trans (h.2.1 i a), fun i a => (g.2.2.1 i a).trans (h.2.2.1 i a), fun i a => (g.2.2.2 i a).trans (h.2.2.2 i a)⟩
theorem TRF.rt {T T' : Nat → Nat → Int32} {z : Nat → Int32} {nv nc : Nat} (g : TRF T T') (h : RT T z nv nc) (h12 : nv ≤ 12) (h4 : nc ≤ 4) : RT T' z nv nc := by
  obtain ⟨g1, g2, g3, g4⟩ := g
  refine ⟨fun k hk => ?_, fun v x hv hx h5 => ?_, fun v hv => ?_, fun v hv hv' => ?_, fun v k x hv hk hx => ?_, fun c hc => ⟨?_, ?_, ?_, ?_⟩, fun c hc => ?_, fun c hc hc' => ?_, fun r x hr hx => ?_, fun e x he hx => ?_⟩
  · rw [g1 5 (by decide) (by decide) (by decide)]; exact h.num k hk
  · rw [g2 _ (by omega)]; exact h.vol v x hv hx h5
  · rw [g2 _ (by omega)]; exact h.pl v hv
  · rw [g2 _ (by omega)]; exact h.pl0 v hv hv'
  · rw [g3 _ (by omega)]; exact h.leaf v k x hv hk hx
  · rw [g4 _ (by omega)]; exact (h.cra c hc).1
  · rw [g4 _ (by omega)]; exact (h.cra c hc).2.1
  · rw [g4 _ (by omega)]; exact (h.cra c hc).2.2.1
  · rw [g4 _ (by omega)]; exact (h.cra c hc).2.2.2
  · rw [g4 _ (by omega)]; exact h.held c hc
  · rw [g4 _ (by omega)]; exact h.held0 c hc hc'
  · rw [g1 3 (by decide) (by decide) (by decide)]; exact h.car r x hr hx
  · rw [g1 4 (by decide) (by decide) (by decide)]; exact h.ent e x he hx
theorem TRF_trial {T : Nat → Nat → Int32} {c v : Nat} : TRF T (F_0copyForTrial_T c v T) := by
  refine ⟨fun j a b e => ?_, fun i hi => ?_, fun i hi => ?_, fun i hi => ?_⟩
  · unfold F_0copyForTrial_T
    rw [tu_ne e, tu_ne b, tu_ne a]
  · show va_cpy (T 0) (T 0) (v * 7) (12 * 7) 7 i = _
    rw [pk_cpy_out (by omega)]
  · show va_cpy (T 1) (T 1) (v * 120) (12 * 120) 120 i = _
    rw [pk_cpy_out (by omega)]
  · show va_cpy (T 2) (T 2) (c * 5) (4 * 5) 5 i = _
    rw [pk_cpy_out (by omega)]
theorem TRF_FR {T T' : Nat → Nat → Int32} (h : FR 4 12 T T') : TRF T T' := ⟨h.1, fun i hi => h.2.1 i (by omega) (by omega), fun i hi => h.2.2.1 i (by omega), fun i hi => h.2.2.2 i (by omega) (by omega)⟩
theorem trial_0 {T : Nat → Nat → Int32} {c v : Nat} (x : Nat) (hx : x < 7) : F_0copyForTrial_T c v T 0 (12 * 7 + x) = T 0 (v * 7 + x) := by
  show va_cpy (T 0) (T 0) (v * 7) (12 * 7) 7 (12 * 7 + x) = _
  rw [pk_cpy_in (by omega) (by omega)]
  exact congrArg (T 0) (by omega)
theorem trial_1 {T : Nat → Nat → Int32} {c v : Nat} (x : Nat) (hx : x < 120) : F_0copyForTrial_T c v T 1 (12 * 120 + x) = T 1 (v * 120 + x) := by
  show va_cpy (T 1) (T 1) (v * 120) (12 * 120) 120 (12 * 120 + x) = _
  rw [pk_cpy_in (by omega) (by omega)]
  exact congrArg (T 1) (by omega)
theorem trial_2 {T : Nat → Nat → Int32} {c v : Nat} (x : Nat) (hx : x < 5) : F_0copyForTrial_T c v T 2 (4 * 5 + x) = T 2 (c * 5 + x) := by
  show va_cpy (T 2) (T 2) (c * 5) (4 * 5) 5 (4 * 5 + x) = _
  rw [pk_cpy_in (by omega) (by omega)]
  exact congrArg (T 2) (by omega)
theorem gT_trial {T : Nat → Nat → Int32} {c v : Nat} : gT (F_0copyForTrial_T c v T) 4 12 = gT T c v := by
  funext i
  match i with
  | 0 => exact trial_2 3 (by omega)
  | 1 => exact trial_2 4 (by omega)
  | 2 => exact trial_0 3 (by omega)
  | 3 => exact trial_0 4 (by omega)
  | q + 4 =>
    show (if q < 120 then _ else _) = if q < 120 then _ else _
    by_cases hq : q < 120
    · rw [if_pos hq, if_pos hq]
      exact trial_1 q hq
    · rw [if_neg hq, if_neg hq]
theorem lt_trial {T : Nat → Nat → Int32} {c v : Nat} : lt (F_0copyForTrial_T c v T) 12 = lt T v := by
  unfold lt
  rw [trial_0 2 (by omega)]
section TRY
variable {T : Nat → Nat → Int32} {z : Nat → Int32} {nv nc nr ne c v : Nat}
/-- a trial of k minutes -/
theorem try_it (h : RT T z nv nc) (w : WZ z nv nc nr ne) (hc : c < nc) (hv : v < nv) {k : Nat} (hk : k < 10000) :
    ∃ u : Nat, u ≤ k ∧ u ≤ 1480 ∧ F_0workFor 4 12 (nI k) (F_0copyForTrial_T c v T) = nI u ∧ gT (F_0workFor_T 4 12 (nI k) (F_0copyForTrial_T c v T)) 4 12 = it (z 7) (z 8) (z 9) (z (95 + 4 * c + 1)) (lv z v) (gZ z c v) k ∧ (∀ t, t < u → alive (z (95 + 4 * c + 1)) (lv z v) (it (z 7) (z 8) (z 9) (z (95 + 4 * c + 1)) (lv z v) (gZ z c v) t)) ∧ (u = k ∨ ¬ alive (z (95 + 4 * c + 1)) (lv z v) (it (z 7) (z 8) (z 9) (z (95 + 4 * c + 1)) (lv z v) (gZ z c v) u)) := by
  have h12 := w.nv.2
  have h4 := w.nc.2
  have hH : HLv T v := (TI_RT h w).2.2.2.2.1 v (by omega)
  obtain ⟨s0, hs01, hs0, es0⟩ := w.s0
  obtain ⟨s1, hs1, es1⟩ := w.s1
  obtain ⟨s2, hs21, hs2, es2⟩ := w.s2
  obtain ⟨g, hg, eg⟩ := (w.cra c hc).1
  have e5 : F_0copyForTrial_T c v T 5 = T 5 := TRF_trial.1 5 (by decide) (by decide) (by decide)
  have er : gT T c v = gZ z c v := gT_gZ h (by omega) (by omega)
  have := wf_it (k := k) (c := 4) (HLv_trial (c := c) hH) (show s0 ≤ 9 by omega) hs1 hs2 hg (by rw [e5, h.num 7 (by omega), es0]) (by rw [e5, h.num 8 (by omega), es1]) (by rw [e5, h.num 9 (by omega), es2]) (by rw [trial_2 1 (by omega), (h.cra c (by omega)).2.1, eg]) (by rw [gT_trial, er]; exact (w.RB hc hv).1) hk
  rw [gT_trial, lt_trial, er, lt_eq h (by omega)] at this
  rw [es0, es1, es2, eg]
  exact this
theorem TRF_try (h : RT T z nv nc) (w : WZ z nv nc nr ne) (hv : v < nv) (m : Int32) : TRF T (F_0workFor_T 4 12 m (F_0copyForTrial_T c v T)) :=
  TRF_trial.trans (TRF_FR (wf_FR (HLv_trial ((TI_RT h w).2.2.2.2.1 v (by have := w.nv.2; omega)))))
/-- the scans that a trial shows -/
theorem sif (h : RT T z nv nc) (w : WZ z nv nc nr ne) (hc : c < nc) (hv : v < nv) {m a : Nat} (hm : m < 10000) (ha : a < 10000) : F_0scansIfThere c v (nI m - nI a) T = it (z 7) (z 8) (z 9) (z (95 + 4 * c + 1)) (lv z v) (gZ z c v) (m - a) 1 - gZ z c v 1 := by
  have h4 := w.nc.2
  have h12 := w.nv.2
  unfold F_0scansIfThere
  have e : F_0workFor_T 4 12 (nI m - nI a) (F_0copyForTrial_T c v T) 2 (c * 5 + 4) = gZ z c v 1 := ((TRF_try h w hv _).2.2.2 _ (by omega)).trans (h.cra c (by omega)).2.2.2
  rw [e]
  congr 1
  show gT (F_0workFor_T 4 12 (nI m - nI a) (F_0copyForTrial_T c v T)) 4 12 1 = _
  by_cases hma : a ≤ m
  · obtain ⟨u, -, -, -, hu, -⟩ := try_it h w hc hv (k := m - a) (by omega)
    rw [pk_sub hma, hu]
  · rw [(wf_neg (sub_neg (by omega) (by omega))).2, gT_trial, gT_gZ h (by omega) (by omega), show m - a = 0 by omega]
    rfl
theorem TRF_sOn (h : RT T z nv nc) (w : WZ z nv nc nr ne) (hc : c < nc) (m : Int32) : TRF T (F_0scansOnCradleIn_T c m T) := by
  unfold F_0scansOnCradleIn_T
  have hh := h.held c hc
  cases hv : vo z (nI c) nv with
  | none =>
    rw [hv] at hh
    rw [if_neg (isFree_n hh)]
    exact TRF.refl T
  | some v =>
    rw [hv] at hh
    have hvn := vo_lt hv
    have hh' : T 2 (c * 5 + 2) = nI v := hh
    rw [if_pos (isFree_s hh' (by have := w.nv.2; omega)), hh', cl_nI (by have := w.nv.2; omega)]
    exact TRF_try h w hvn _
theorem sOn (h : RT T z nv nc) (w : WZ z nv nc nr ne) (hc : c < nc) {m : Nat} (hm : m < 10000) : F_0scansOnCradleIn c (nI m) T = mnN nv nc nr z m (95 + 4 * c + 3) - z (95 + 4 * c + 3) := by
  have h4 := w.nc.2
  have h12 := w.nv.2
  have hM := w.MN m
  obtain ⟨a1, a2, a3, a4, a5⟩ := id hM
  unfold F_0scansOnCradleIn
  have hh := h.held c hc
  cases hv : vo z (nI c) nv with
  | none =>
    rw [hv] at hh
    rw [if_neg (isFree_n hh), a5 _ (fun c' v hc' hv' => by
      have := vo_lt hv'
      have : c' ≠ c := fun e => by rw [e, hv] at hv'; cases hv'
      unfold AC1; omega) (by omega) (by omega) (by omega), Int32.sub_self]
    rfl
  | some v =>
    rw [hv] at hh
    have hvn := vo_lt hv
    have hh' : T 2 (c * 5 + 2) = nI v := hh
    obtain ⟨a, ha, ea⟩ := (w.vol v hvn).2.2.2.2
    rw [if_pos (isFree_s hh' (by omega)), hh', cl_nI (by omega), h.vol v 6 (by omega) (by omega) (by omega), ea, sif h w hc hvn hm (by omega), ← a1 c v a hc hv (by omega) ea]
    rfl
theorem sIn (h : RT T z nv nc) (w : WZ z nv nc nr ne) {m : Nat} (hm : m < 10000) : ∀ j : Nat, j ≤ nc → TRF T (L_0scansIn_4 (nI m) T j).2 ∧ (L_0scansIn_4 (nI m) T j).1 = SC (mnN nv nc nr z m) j - SC z j
  | 0, _ => ⟨TRF.refl T, by show nI 0 = (0 : Int32) - 0; rfl⟩
  | j + 1, hj => by
    obtain ⟨h1, h2⟩ := sIn h w hm j (by omega)
    have hr := h1.rt h w.nv.2 w.nc.2
    show TRF T (F_0scansOnCradleIn_T j (nI m) (L_0scansIn_4 (nI m) T j).2) ∧ (L_0scansIn_4 (nI m) T j).1 + F_0scansOnCradleIn j (nI m) (L_0scansIn_4 (nI m) T j).2 = _
    refine ⟨h1.trans (TRF_sOn hr w (by omega) _), ?_⟩
    rw [h2, sOn hr w (by omega) hm, SC_s, SC_s, i_sub4]
theorem done_m1 : ∀ j : Nat, L_5doneBy_4 (-1) z j = SC z j
  | 0 => rfl
  | j + 1 => by
    show B_5doneBy_4 (-1) z j (L_5doneBy_4 (-1) z j) = _
    unfold B_5doneBy_4
    rw [if_pos rfl, done_m1 j, SC_s]
theorem done_c {c : Nat} (hc : c < 4) : ∀ j : Nat, j ≤ 4 → L_5doneBy_4 (nI c) z j = if c < j then z (95 + 4 * c + 3) else 0
  | 0, _ => rfl
  | j + 1, hj => by
    show B_5doneBy_4 (nI c) z j (L_5doneBy_4 (nI c) z j) = _
    unfold B_5doneBy_4
    rw [if_neg (nI_m1 (by omega)), done_c hc j (by omega)]
    by_cases e : j = c
    · subst e
      rw [if_pos rfl, if_neg (by omega), if_pos (by omega), Int32.zero_add]
    · rw [if_neg (fun q => e ((nI_eq (by omega) (by omega)).mp q)), i_a0]
      by_cases h : c < j
      · rw [if_pos h, if_pos (by omega)]
      · rw [if_neg h, if_neg (by omega)]
/-- the class's scans in m minutes: the reference's -/
theorem e_passed (h : RT T z nv nc) (w : WZ z nv nc nr ne) {m : Nat} (hm : m < 10000) : F_0scansIn (nI m) nc T = F_5passedNow m (-1) nv nc nr z := by
  unfold F_0scansIn F_5passedNow
  rw [(sIn h w hm nc (Nat.le_refl _)).2, pN_mn, done_m1, done_m1]
theorem e_passedOn (h : RT T z nv nc) (w : WZ z nv nc nr ne) (hc : c < nc) {m : Nat} (hm : m < 10000) : F_0scansOnCradleIn c (nI m) T = F_5passedNow m (nI c) nv nc nr z := by
  have h4 := w.nc.2
  unfold F_5passedNow
  rw [sOn h w hc hm, pN_mn, done_c (by omega) nc h4, done_c (by omega) nc h4, if_pos hc, if_pos hc]
end TRY
