/-! UNTIL ALL IS DONE -/
theorem it_live {s0 s1 s2 g : Int32} {n u : Nat} {r : Nat → Int32} (h1 : ∀ t, t < u → alive g n (it s0 s1 s2 g n r t)) (h2 : ¬ alive g n (it s0 s1 s2 g n r u)) (t : Nat) : alive g n (it s0 s1 s2 g n r t) ↔ t < u := by
  constructor
  · intro h
    by_cases q : t < u
    · exact q
    · have e := it_add s0 s1 s2 g n r u (t - u)
      rw [show u + (t - u) = t by omega, it_dead h2] at e
      rw [e] at h
      exact absurd h h2
  · exact h1 t
section DONE
variable {T : Nat → Nat → Int32} {z : Nat → Int32} {nv nc nr ne : Nat}
/-- a cradle would work -/
theorem isAny_iff (hZ : ZI z nv nc nr ne) : ∀ j : Nat, j ≤ 4 → (L_5isAny_4 nv z j = 0 ∨ L_5isAny_4 nv z j = nI 1) ∧ (L_5isAny_4 nv z j = 0 ↔ ∀ c v, c < j → vo z (nI c) nv = some v → ¬ alive (z (95 + 4 * c + 1)) (lv z v) (gZ z c v))
  | 0, _ => ⟨Or.inl rfl, fun _ c v h => by omega, fun _ => rfl⟩
  | j + 1, hj => by
    obtain ⟨h1, h2⟩ := isAny_iff hZ j (by omega)
    show (B_5isAny_4 nv z j (L_5isAny_4 nv z j) = 0 ∨ B_5isAny_4 nv z j (L_5isAny_4 nv z j) = nI 1) ∧ (B_5isAny_4 nv z j (L_5isAny_4 nv z j) = 0 ↔ _)
    have h12 := hZ.1.2
    unfold B_5isAny_4
    have n1 : ¬ nI 1 = (0 : Int32) := by decide
    have n0 : nI 0 = (0 : Int32) := rfl
    by_cases h0 : L_5isAny_4 nv z j = 0
    · rw [if_pos h0]
      have hall := h2.mp h0
      cases hv : vo z (nI j) nv with
      | none =>
        rw [if_pos (show oI none = -1 from rfl)]
        refine ⟨Or.inl n0, fun _ c v hc hcv => ?_, fun _ => n0⟩
        by_cases e : c = j
        · rw [e, hv] at hcv
          cases hcv
        · exact hall c v (by omega) hcv
      | some v =>
        have hvn := vo_lt hv
        have hl := (hZ.2.2.2.2 v hvn).2
        have eg : voG z (nI j) nv = v := by unfold voG; rw [hv]; rfl
        rw [if_neg (show ¬ oI (some v) = -1 from nI_m1 (by omega)), eg]
        have key : ∀ p : Prop, (p ↔ ¬ alive (z (95 + 4 * j + 1)) (lv z v) (gZ z j v)) → (p ↔ ∀ c v, c < j + 1 → vo z (nI c) nv = some v → ¬ alive (z (95 + 4 * c + 1)) (lv z v) (gZ z c v)) := by
          intro p hp
          rw [hp]
          refine ⟨fun q c v' hc hcv => ?_, fun q => q j v (by omega) hv⟩
          by_cases e : c = j
          · subst e
            rw [hv] at hcv
            cases hcv
            exact q
          · exact hall c v' (by omega) hcv
        have en : nlO z v (lv z v) = nlr (gZ z j v) (lv z v) := nlO_nlr hl
        by_cases h3 : z (95 + 4 * j + 1) < z (11 + 7 * v + 3)
        · rw [if_pos h3]
          exact ⟨Or.inl n0, key _ ⟨fun _ q => q.2 h3, fun _ => n0⟩⟩
        · rw [if_neg h3]
          by_cases h4 : nlO z v (lv z v) = none
          · rw [if_pos ((nlO_m1 hl).mpr h4)]
            rw [en] at h4
            exact ⟨Or.inl n0, key _ ⟨fun _ q => q.1 h4, fun _ => n0⟩⟩
          · rw [if_neg (fun q => h4 ((nlO_m1 hl).mp q))]
            rw [en] at h4
            exact ⟨Or.inr rfl, key _ ⟨fun q => absurd q n1, fun q => absurd ⟨h4, h3⟩ q⟩⟩
    · rw [if_neg h0]
      refine ⟨Or.inr rfl, fun q => absurd q n1, fun q => absurd (h2.mpr fun c v hc => q c v (by omega)) h0⟩
/-- the worked minutes of the cradles: the class's greatest -/
theorem mUD (h : RT T z nv nc) (w : WZ z nv nc nr ne) : ∀ j : Nat, j ≤ nc → TRF T (L_0minutesUntilDone_4 T j).2 ∧ ∃ D : Nat, D ≤ 1600 ∧ (L_0minutesUntilDone_4 T j).1 = nI D ∧ ∀ t, t < D ↔ ∃ c v a, c < j ∧ vo z (nI c) nv = some v ∧ a < 1000 ∧ z (11 + 7 * v + 6) = nI a ∧ alive (z (95 + 4 * c + 1)) (lv z v) (it (z 7) (z 8) (z 9) (z (95 + 4 * c + 1)) (lv z v) (gZ z c v) (t - a))
  | 0, _ => ⟨TRF.refl T, 0, by omega, rfl, fun t => ⟨fun q => by omega, fun ⟨c, v, a, hc, _⟩ => by omega⟩⟩
  | j + 1, hj => by
    obtain ⟨h1, D, hD, e1, h2⟩ := mUD h w j (by omega)
    have hr := h1.rt h w.nv.2 w.nc.2
    have h12 := w.nv.2
    show TRF T (B_0minutesUntilDone_4 j (L_0minutesUntilDone_4 T j).1 (L_0minutesUntilDone_4 T j).2).2 ∧ ∃ D : Nat, D ≤ 1600 ∧ (B_0minutesUntilDone_4 j (L_0minutesUntilDone_4 T j).1 (L_0minutesUntilDone_4 T j).2).1 = nI D ∧ _
    generalize L_0minutesUntilDone_4 T j = X at h1 e1 hr
    obtain ⟨x, Y⟩ := X
    dsimp only at h1 e1 hr ⊢
    have hh := hr.held j (by omega)
    unfold B_0minutesUntilDone_4
    cases hv : vo z (nI j) nv with
    | none =>
      rw [hv] at hh
      rw [if_neg (isFree_n hh)]
      refine ⟨h1, D, hD, e1, fun t => (h2 t).trans ⟨fun ⟨c, v, a, hc, p⟩ => ⟨c, v, a, by omega, p⟩, fun ⟨c, v, a, hc, hcv, p⟩ => ⟨c, v, a, ?_, hcv, p⟩⟩⟩
      have : c ≠ j := fun e => by
        rw [e, hv] at hcv
        cases hcv
      omega
    | some v =>
      have hvn := vo_lt hv
      rw [hv] at hh
      have hh' : Y 2 (j * 5 + 2) = nI v := hh
      rw [if_pos (isFree_s hh' (by omega)), hh', cl_nI (by omega)]
      obtain ⟨a, ha, ea⟩ := (w.vol v hvn).2.2.2.2
      obtain ⟨u, hu1, hu2, hu3, -, hu5, hu6⟩ := try_it hr w (c := j) (by omega) hvn (k := 2001) (by omega)
      have hF := h1.trans (TRF_try (c := j) hr w hvn (nI 2001))
      have e6 : F_0workFor_T 4 12 (nI 2001) (F_0copyForTrial_T j v Y) 0 (v * 7 + 6) = nI a := ((hF.2.1 _ (by omega)).trans (h.vol v 6 (by omega) (by omega) (by omega))).trans ea
      have hlive := it_live hu5 (hu6.resolve_left (by omega))
      rw [hu3]
      have hsp : ∀ t, (∃ c v a, c < j + 1 ∧ vo z (nI c) nv = some v ∧ a < 1000 ∧ z (11 + 7 * v + 6) = nI a ∧ alive (z (95 + 4 * c + 1)) (lv z v) (it (z 7) (z 8) (z 9) (z (95 + 4 * c + 1)) (lv z v) (gZ z c v) (t - a))) ↔ (t < D ∨ t - a < u) := by
        intro t
        constructor
        · rintro ⟨c, v', a', hc, hcv, ha', ea', q⟩
          by_cases e : c = j
          · subst e
            rw [hv] at hcv
            cases hcv
            rw [ea] at ea'
            have : a = a' := (nI_eq (by omega) (by omega)).mp ea'
            subst this
            exact Or.inr ((hlive _).mp q)
          · exact Or.inl ((h2 t).mpr ⟨c, v', a', by omega, hcv, ha', ea', q⟩)
        · rintro (q | q)
          · obtain ⟨c, v', a', hc, p⟩ := (h2 t).mp q
            exact ⟨c, v', a', by omega, p⟩
          · exact ⟨j, v, a, by omega, hv, by omega, ea, (hlive _).mpr q⟩
      by_cases hu0 : nI u = 0
      · have hu00 : u = 0 := (eq0_nI (by omega)).mp hu0
        rw [if_pos hu0]
        refine ⟨hF, D, hD, ?_, fun t => ?_⟩
        · rw [if_neg ?_]
          · exact e1
          · rw [e1]
            intro q
            have := (nI_ltI (a := D) (b := 0) (by omega) (by omega)).mp q
            omega
        · rw [hsp t]
          omega
      · have hu00 : ¬ u = 0 := fun q => hu0 ((eq0_nI (by omega)).mpr q)
        rw [if_neg hu0, e6, e1, nI_add]
        by_cases hq : D < a + u
        · rw [if_pos ((nI_ltI (by omega) (by omega)).mpr hq)]
          refine ⟨hF, a + u, by omega, rfl, fun t => ?_⟩
          rw [hsp t]
          omega
        · rw [if_neg (fun q => hq ((nI_ltI (by omega) (by omega)).mp q))]
          refine ⟨hF, D, hD, rfl, fun t => ?_⟩
          rw [hsp t]
          omega
/-- j minutes on, is any at work? -/
theorem any_mn (w : WZ z nv nc nr ne) (t : Nat) : L_5isAny_4 nv (mnN nv nc nr z t) nc = 0 ↔ ¬ ∃ c v a, c < nc ∧ vo z (nI c) nv = some v ∧ a < 1000 ∧ z (11 + 7 * v + 6) = nI a ∧ alive (z (95 + 4 * c + 1)) (lv z v) (it (z 7) (z 8) (z 9) (z (95 + 4 * c + 1)) (lv z v) (gZ z c v) (t - a)) := by
  have h12 := w.nv.2
  have h4 := w.nc.2
  have h3 := w.nr.2
  have hM := w.MN t
  have fr : ∀ {i : Nat}, (∀ c v, c < 4 → v < 12 → ¬ AC1 c v i) → (∀ r, r < 3 → i ≠ 111 + 4 * r + 1) → (∀ v, v < 12 → i ≠ 11 + 7 * v + 6) → i ≠ 3 → mnN nv nc nr z t i = z i := fun h1 h2 h5 h6 => hM.fr h12 h4 h3 h1 h2 h5 h6
  have hvo : ∀ x, vo (mnN nv nc nr z t) x nv = vo z x nv := fun x => vo_congr nv fun q hq => fr (fun c v hc hv => by unfold AC1; omega) (by omega) (by omega) (by omega)
  have he : ∀ c v a, c < nc → vo z (nI c) nv = some v → a < 1000 → z (11 + 7 * v + 6) = nI a → (alive (mnN nv nc nr z t (95 + 4 * c + 1)) (lv (mnN nv nc nr z t) v) (gZ (mnN nv nc nr z t) c v) ↔ alive (z (95 + 4 * c + 1)) (lv z v) (it (z 7) (z 8) (z 9) (z (95 + 4 * c + 1)) (lv z v) (gZ z c v) (t - a))) := by
    intro c v a hc hcv ha ea
    have hvn := vo_lt hcv
    have el : lv (mnN nv nc nr z t) v = lv z v := by
      unfold lv
      rw [fr (fun c v hc hv => by unfold AC1; omega) (by omega) (by omega) (by omega)]
    rw [el, hM.1 c v a hc hcv ha ea, fr (i := 95 + 4 * c + 1) (fun c v hc hv => by unfold AC1; omega) (by omega) (by omega) (by omega)]
  rw [(isAny_iff (ZI_mnN w.zi t) nc h4).2]
  constructor
  · rintro q ⟨c, v, a, hc, hcv, ha, ea, p⟩
    exact q c v hc ((hvo _).trans hcv) ((he c v a hc hcv ha ea).mpr p)
  · intro q c v hc hcv p
    rw [hvo] at hcv
    obtain ⟨a, ha, ea⟩ := (w.vol v (vo_lt hcv)).2.2.2.2
    exact q ⟨c, v, a, hc, hcv, by omega, ea, (he c v a hc hcv (by omega) ea).mp p⟩
theorem doneW (w : WZ z nv nc nr ne) {D : Nat} {sa : Nat → Int32} (hD : D ≤ 2000) (h : ∀ t, t < D ↔ ¬ L_5isAny_4 nv (mnN nv nc nr z t) nc = 0) : ∀ (f j : Nat), j ≤ D → D < j + f → (W_5doneNow_6 nv nc nr z sa f j (mnN nv nc nr z j)).1 = nI D
  | 0, j, h1, h2 => by omega
  | f + 1, j, h1, h2 => by
    unfold W_5doneNow_6
    by_cases e : j = D
    · have h0 : L_5isAny_4 nv (mnN nv nc nr z j) nc = 0 := by
        by_cases q : L_5isAny_4 nv (mnN nv nc nr z j) nc = 0
        · exact q
        · have := (h j).mpr q
          omega
      rw [if_pos h0, if_pos (by omega), e]
    · have h0 := (h j).mp (by omega)
      rw [if_neg h0]
      exact doneW w hD h f (j + 1) (by omega) (by omega)
/-- the minutes until all is done: the class's are the reference's -/
theorem e_done (h : RT T z nv nc) (w : WZ z nv nc nr ne) (sa : Nat → Int32) : F_0minutesUntilDone nc T = F_5doneNow nv nc nr z sa := by
  obtain ⟨-, D, hD, e1, h2⟩ := mUD h w nc (Nat.le_refl _)
  unfold F_0minutesUntilDone F_5doneNow
  rw [e1, if_pos (nI_le (by omega) (by omega))]
  refine (doneW w (by omega) (fun t => ?_) 2001 0 (by omega) (by omega)).symm
  rw [h2 t, any_mn w t]
  exact (Classical.not_not).symm
theorem TRF_done (h : RT T z nv nc) (w : WZ z nv nc nr ne) : TRF T (F_0minutesUntilDone_T nc T) := by
  unfold F_0minutesUntilDone_T
  have := (mUD h w nc (Nat.le_refl _)).1
  split <;> exact this
end DONE
