/-! MINUTES in the reference: what a minute, and what m minutes leave -/
section MINZ
variable {z : Nat → Int32} {nv nc nr ne : Nat}
theorem minZ (hZ : ZI z nv nc nr ne) :
    (∀ c v, c < nc → vo z (nI c) nv = some v → gZ (F_5minute_z nv nc nr z) c v = if 0 < z (11 + 7 * v + 6) then gZ z c v else one (z 7) (z 8) (z 9) (z (95 + 4 * c + 1)) (lv z v) (gZ z c v)) ∧
    (∀ r, r < nr → F_5minute_z nv nc nr z (111 + 4 * r + 1) = dec (z (111 + 4 * r + 1))) ∧
    (∀ v, v < nv → F_5minute_z nv nc nr z (11 + 7 * v + 6) = dec (z (11 + 7 * v + 6))) ∧
    F_5minute_z nv nc nr z 3 = z 3 + nI 1 ∧
    (∀ i, (∀ c v, c < nc → vo z (nI c) nv = some v → ¬ AC1 c v i) → (∀ r, r < nr → i ≠ 111 + 4 * r + 1) → (∀ v, v < nv → i ≠ 11 + 7 * v + 6) → i ≠ 3 → F_5minute_z nv nc nr z i = z i) ∧
    F_5minute nv nc z = SC (F_5minute_z nv nc nr z) nc - SC z nc := by
  have h12 := hZ.1.2
  have h4 := hZ.2.1.2
  have h3 := hZ.2.2.1.2
  obtain ⟨a1, a2, a3⟩ := min4 hZ nc (Nat.le_refl _)
  obtain ⟨b1, b2⟩ := min42 (z := z) (nv := nv) (nc := nc) nr h3
  obtain ⟨c1, c2⟩ := min90 (z := z) (nv := nv) (nc := nc) (nr := nr) nv h12
  have hne : ∀ i, (∀ c v, c < 4 → v < 12 → ¬ AC1 c v i) → (L_5minute_4 nv z nc).2 i = z i := fun i hi => a1 i fun c v hc hv => hi c v (by omega) (by have := vo_lt hv; omega)
  have hin : ∀ i, i ≠ 3 → (∀ r, r < 3 → i ≠ 111 + 4 * r + 1) → (∀ v, v < 12 → i ≠ 11 + 7 * v + 6) → F_5minute_z nv nc nr z i = (L_5minute_4 nv z nc).2 i := by
    intro i hi hr hv
    unfold F_5minute_z
    rw [upd_ne hi, c2 i (fun v h => hv v (by omega)), b2 i (fun r h => hr r (by omega))]
  refine ⟨fun c v hc hv => ?_, fun r hr => ?_, fun v hv => ?_, ?_, fun i hi hr hv hi3 => ?_, ?_⟩
  · have hvn := vo_lt hv
    rw [← a2 c v hc hv]
    exact gZ_congr (hin _ (by omega) (by omega) (by omega)) (hin _ (by omega) (by omega) (by omega)) (hin _ (by omega) (by omega) (by omega)) (hin _ (by omega) (by omega) (by omega)) fun k hk => hin _ (by omega) (by omega) (by omega)
  · unfold F_5minute_z
    rw [upd_ne (by omega), c2 _ (by omega), b1 r hr, hne _ (fun c v hc hv => by unfold AC1; omega)]
  · unfold F_5minute_z
    rw [upd_ne (by omega), c1 v hv, b2 _ (by omega), hne _ (fun c v hc hv => by unfold AC1; omega)]
  · unfold F_5minute_z
    rw [upd_eq, c2 _ (by omega), b2 _ (by omega), hne _ (fun c v hc hv => by unfold AC1; omega)]
  · unfold F_5minute_z
    rw [upd_ne hi3, c2 i hv, b2 i hr, a1 i hi]
  · unfold F_5minute
    rw [a3]
    congr 1
    exact (SC_congr nc fun c hc => hin _ (by omega) (by omega) (by omega)).symm
theorem dec_nI {a : Nat} (h : a < 1000) : dec (nI a) = nI (a - 1) := by
  unfold dec
  by_cases h0 : a = 0
  · rw [if_pos (le0 (by omega) h0), h0]
    rfl
  · rw [if_neg (nle0 (by omega) h0), pk_sub (by omega)]
/-- m minutes from z leave z' -/
def MN (z z' : Nat → Int32) (nv nc nr m : Nat) : Prop :=
    (∀ c v a, c < nc → vo z (nI c) nv = some v → a < 1000 → z (11 + 7 * v + 6) = nI a → gZ z' c v = it (z 7) (z 8) (z 9) (z (95 + 4 * c + 1)) (lv z v) (gZ z c v) (m - a)) ∧
    (∀ r a, r < nr → a < 1000 → z (111 + 4 * r + 1) = nI a → z' (111 + 4 * r + 1) = nI (a - m)) ∧
    (∀ v a, v < nv → a < 1000 → z (11 + 7 * v + 6) = nI a → z' (11 + 7 * v + 6) = nI (a - m)) ∧
    z' 3 = z 3 + nI m ∧
    ∀ i, (∀ c v, c < nc → vo z (nI c) nv = some v → ¬ AC1 c v i) → (∀ r, r < nr → i ≠ 111 + 4 * r + 1) → (∀ v, v < nv → i ≠ 11 + 7 * v + 6) → i ≠ 3 → z' i = z i
theorem MN.fr {z z' : Nat → Int32} {nv nc nr m : Nat} (h : MN z z' nv nc nr m) (h12 : nv ≤ 12) (h4 : nc ≤ 4) (h3 : nr ≤ 3) {i : Nat} (h1 : ∀ c v, c < 4 → v < 12 → ¬ AC1 c v i) (h2 : ∀ r, r < 3 → i ≠ 111 + 4 * r + 1) (h5 : ∀ v, v < 12 → i ≠ 11 + 7 * v + 6) (h6 : i ≠ 3) : z' i = z i :=
  h.2.2.2.2 i (fun c v hc hv => h1 c v (by omega) (by have := vo_lt hv; omega)) (fun r hr => h2 r (by omega)) (fun v hv => h5 v (by omega)) h6
theorem MN_mn (hZ : ZI z nv nc nr ne) (hL : ∀ v, v < nv → ∃ a : Nat, a < 1000 ∧ z (11 + 7 * v + 6) = nI a) (hB : ∀ r, r < nr → ∃ a : Nat, a < 1000 ∧ z (111 + 4 * r + 1) = nI a) : ∀ m : Nat, MN z (mnN nv nc nr z m) nv nc nr m
  | 0 => ⟨fun c v a hc hv ha e => by rw [Nat.zero_sub]; rfl, fun r a hr ha e => e, fun v a hv ha e => e, (i_a0 _).symm, fun _ _ _ _ _ => rfl⟩
  | m + 1 => by
    have ih := MN_mn hZ hL hB m
    have h12 := hZ.1.2
    have h4 := hZ.2.1.2
    have h3 := hZ.2.2.1.2
    have hM := minZ (ZI_mnN hZ m)
    obtain ⟨a1, a2, a3, a4, a5⟩ := id ih
    obtain ⟨b1, b2, b3, b4, b5, b6⟩ := id hM
    have hvo : ∀ x, vo (mnN nv nc nr z m) x nv = vo z x nv := fun x => vo_congr nv fun q hq => ih.fr h12 h4 h3 (fun c v hc hv => by unfold AC1; omega) (by omega) (by omega) (by omega)
    refine ⟨fun c v a hc hv ha e => ?_, fun r a hr ha e => ?_, fun v a hv ha e => ?_, ?_, fun i h1 h2 h5 h6 => ?_⟩
    · have hvn := vo_lt hv
      have e6 := a3 v a hvn ha e
      have e7 : mnN nv nc nr z m 7 = z 7 := ih.fr h12 h4 h3 (fun c v hc hv => by unfold AC1; omega) (by omega) (by omega) (by omega)
      have e8 : mnN nv nc nr z m 8 = z 8 := ih.fr h12 h4 h3 (fun c v hc hv => by unfold AC1; omega) (by omega) (by omega) (by omega)
      have e9 : mnN nv nc nr z m 9 = z 9 := ih.fr h12 h4 h3 (fun c v hc hv => by unfold AC1; omega) (by omega) (by omega) (by omega)
      have eg : mnN nv nc nr z m (95 + 4 * c + 1) = z (95 + 4 * c + 1) := ih.fr h12 h4 h3 (fun c v hc hv => by unfold AC1; omega) (by omega) (by omega) (by omega)
      have el : lv (mnN nv nc nr z m) v = lv z v := by
        unfold lv
        rw [ih.fr h12 h4 h3 (fun c v hc hv => by unfold AC1; omega) (by omega) (by omega) (by omega)]
      have h := b1 c v hc ((hvo _).trans hv)
      rw [a1 c v a hc hv ha e, e6, e7, e8, e9, eg, el] at h
      show gZ (F_5minute_z nv nc nr (mnN nv nc nr z m)) c v = _
      rw [h]
      by_cases hq : a ≤ m
      · rw [if_neg (nlt0 (by omega) (by omega)), show m + 1 - a = (m - a) + 1 by omega]
        rfl
      · rw [if_pos (lt0 (by omega) (by omega)), show m + 1 - a = 0 by omega, show m - a = 0 by omega]
    · show F_5minute_z nv nc nr (mnN nv nc nr z m) _ = _
      rw [b2 r hr, a2 r a hr ha e, dec_nI (by omega), Nat.sub_sub]
    · show F_5minute_z nv nc nr (mnN nv nc nr z m) _ = _
      rw [b3 v hv, a3 v a hv ha e, dec_nI (by omega), Nat.sub_sub]
    · show F_5minute_z nv nc nr (mnN nv nc nr z m) _ = _
      rw [b4, a4, Int32.add_assoc, nI_add]
    · show F_5minute_z nv nc nr (mnN nv nc nr z m) _ = _
      rw [b5 i (fun c v hc hv => h1 c v hc ((hvo _).symm.trans hv)) h2 h5 h6, a5 i h1 h2 h5 h6]
end MINZ
/-- leaves of a record -/
def LB (r : Nat → Int32) : Prop := ∀ k, k < 40 → ∃ a : Nat, a ≤ 2 ∧ r (4 + 3 * k) = nI a
theorem scR_LB {s2 : Int32} {k : Nat} {r : Nat → Int32} (h : LB r) : LB (scR s2 k r) := by
  intro j hj
  by_cases e : j = k
  · rw [e]
    exact ⟨1, by omega, scR_leaf.1⟩
  · rw [scR_leaf.2 j e]
    exact h j hj
theorem one_RB {a0 a1 b2 g n : Nat} {r : Nat → Int32} (ha0 : a0 ≤ 9) (ha1 : a1 ≤ 9) (hb : b2 ≤ 200) (hg : g ≤ 2) (h : RB r ∧ LB r) : RB (one (nI a0) (nI a1) (nI b2) (nI g) n r) ∧ LB (one (nI a0) (nI a1) (nI b2) (nI g) n r) := by
  unfold one
  cases hk : nlr r n with
  | none => exact h
  | some k =>
    dsimp only
    by_cases h3 : nI g < r 2
    · rw [if_pos h3]
      exact h
    · rw [if_neg h3]
      obtain ⟨⟨⟨w, hw, ew⟩, ⟨st, hst, es⟩, hr3⟩, hl⟩ := id h
      have hm : a1 * st ≤ 27 := Nat.le_trans (Nat.mul_le_mul ha1 hst) (by omega)
      by_cases hn : nI a0 + nI a1 * r 2 ≤ r 0 + nI 1
      · rw [if_pos hn]
        exact ⟨scR_RB hb hg h.1 h3, scR_LB hl⟩
      · rw [if_neg hn]
        rw [es, ew, pk_mul, nI_add, nI_add] at hn
        have hn2 := mt (nI_leI (a := a0 + a1 * st) (b := w + 1) (by omega) (by omega)).mpr hn
        refine ⟨⟨⟨w + 1, by omega, ?_⟩, ⟨st, hst, ?_⟩, ?_⟩, fun j hj => ?_⟩
        · rw [upd_eq, ew, nI_add]
        · rw [upd_ne (by omega), es]
        · rw [upd_ne (by omega)]
          exact hr3
        · rw [upd_ne (by omega)]
          exact hl j hj
theorem it_RB {a0 a1 b2 g n : Nat} {r : Nat → Int32} (ha0 : a0 ≤ 9) (ha1 : a1 ≤ 9) (hb : b2 ≤ 200) (hg : g ≤ 2) (h : RB r ∧ LB r) : ∀ m : Nat, RB (it (nI a0) (nI a1) (nI b2) (nI g) n r m) ∧ LB (it (nI a0) (nI a1) (nI b2) (nI g) n r m)
  | 0 => h
  | m + 1 => one_RB ha0 ha1 hb hg (it_RB ha0 ha1 hb hg h m)
theorem WZ.RB {z : Nat → Int32} {nv nc nr ne c v : Nat} (w : WZ z nv nc nr ne) (hc : c < nc) (hv : v < nv) : RB (gZ z c v) ∧ LB (gZ z c v) := by
  obtain ⟨-, h3, h4, -⟩ := w.vol v hv
  have h12 := w.nv.2
  refine ⟨⟨(w.cra c hc).2.1, h3, h4⟩, fun k hk => ?_⟩
  rw [gZ_leaf _ _ _ _ (by omega)]
  have := w.leaf v k (by omega) hk
  rwa [show 423 + 3 * (40 * v + k) + 0 = 423 + 120 * v + 3 * k by omega] at this
/-- m minutes keep the cells as they should be -/
theorem WZ_MN {z z' : Nat → Int32} {nv nc nr ne m : Nat} (w : WZ z nv nc nr ne) (hZ : ZI z' nv nc nr ne) (h : MN z z' nv nc nr m) : WZ z' nv nc nr ne := by
  have h12 := w.nv.2
  have h4 := w.nc.2
  have h3 := w.nr.2
  obtain ⟨a1, a2, a3, a4, a5⟩ := id h
  obtain ⟨s0, hs01, hs0, es0⟩ := w.s0
  obtain ⟨s1, hs1, es1⟩ := w.s1
  obtain ⟨s2, hs21, hs2, es2⟩ := w.s2
  have fr : ∀ {i : Nat}, (∀ c v, c < 4 → v < 12 → ¬ AC1 c v i) → (∀ r, r < 3 → i ≠ 111 + 4 * r + 1) → (∀ v, v < 12 → i ≠ 11 + 7 * v + 6) → i ≠ 3 → z' i = z i := fun h1 h2 h5 h6 => h.fr h12 h4 h3 h1 h2 h5 h6
  have hrec : ∀ c v, c < nc → vo z (nI c) nv = some v → RB (gZ z' c v) ∧ LB (gZ z' c v) := by
    intro c v hc hv
    have hvn := vo_lt hv
    obtain ⟨g, hg, eg⟩ := (w.cra c hc).1
    obtain ⟨a, ha, ea⟩ := (w.vol v hvn).2.2.2.2
    rw [a1 c v a hc hv (by omega) ea, es0, es1, es2, eg]
    exact it_RB (by omega) hs1 hs2 hg (w.RB hc hvn) _
  have hvo : ∀ x, vo z' x nv = vo z x nv := fun x => vo_congr nv fun q hq => fr (fun c v hc hv => by unfold AC1; omega) (by omega) (by omega) (by omega)
  have hoff : ∀ v i, v < 12 → (∀ c, c < nc → vo z (nI c) nv ≠ some v) → (i = 11 + 7 * v + 3 ∨ i = 11 + 7 * v + 4 ∨ (423 + 120 * v ≤ i ∧ i < 423 + 120 * v + 120)) → z' i = z i := by
    intro v i hv ho hi
    refine a5 i (fun c v' hc hv' => ?_) (by omega) (by omega) (by omega)
    have := vo_lt hv'
    have : v' ≠ v := fun e => ho c hc (by rw [hv', e])
    unfold AC1
    omega
  refine ⟨hZ, ?_, ⟨?_, ?_, ?_, ?_⟩, fun v hv => ⟨?_, ?_, ?_, ?_, ?_⟩, fun v v' hv hv' e => ?_, fun v k hv hk => ?_, fun v x hv hv' hx => ?_, fun v k x hv hv' hk hx => ?_, fun c hc => ⟨?_, ?_, fun hn => ?_⟩, fun c x hc hc' hx => ?_, fun r hr => ⟨?_, ?_⟩, fun r x hr hr' hx => ?_⟩
  · obtain ⟨t, e⟩ := w.min
    exact ⟨t + m, by rw [a4, e, nI_add]⟩
  · rw [fr (fun c v hc hv => by unfold AC1; omega) (by omega) (by omega) (by omega)]; exact w.s0
  · rw [fr (fun c v hc hv => by unfold AC1; omega) (by omega) (by omega) (by omega)]; exact w.s1
  · rw [fr (fun c v hc hv => by unfold AC1; omega) (by omega) (by omega) (by omega)]; exact w.s2
  · rw [fr (fun c v hc hv => by unfold AC1; omega) (by omega) (by omega) (by omega)]; exact w.s3
  · rw [fr (fun c v hc hv => by unfold AC1; omega) (by omega) (by omega) (by omega)]; exact (w.vol v hv).1
  · by_cases ho : ∃ c, c < nc ∧ vo z (nI c) nv = some v
    · obtain ⟨c, hc, hcv⟩ := ho
      exact (hrec c v hc hcv).1.2.1
    · rw [hoff v _ (by omega) (fun c hc e => ho ⟨c, hc, e⟩) (by omega)]; exact (w.vol v hv).2.1
  · by_cases ho : ∃ c, c < nc ∧ vo z (nI c) nv = some v
    · obtain ⟨c, hc, hcv⟩ := ho
      exact (hrec c v hc hcv).1.2.2
    · rw [hoff v _ (by omega) (fun c hc e => ho ⟨c, hc, e⟩) (by omega)]; exact (w.vol v hv).2.2.1
  · rw [fr (fun c v hc hv => by unfold AC1; omega) (by omega) (by omega) (by omega)]; exact (w.vol v hv).2.2.2.1
  · obtain ⟨a, ha, ea⟩ := (w.vol v hv).2.2.2.2
    exact ⟨a - m, by omega, a3 v a hv (by omega) ea⟩
  · rw [fr (fun c v hc hv => by unfold AC1; omega) (by omega) (by omega) (by omega), fr (i := 11 + 7 * v' + 5) (fun c v hc hv => by unfold AC1; omega) (by omega) (by omega) (by omega)] at e
    rw [fr (fun c v hc hv => by unfold AC1; omega) (by omega) (by omega) (by omega)]
    exact w.uni v v' hv hv' e
  · by_cases ho : ∃ c, c < nc ∧ vo z (nI c) nv = some v
    · obtain ⟨c, hc, hcv⟩ := ho
      have := (hrec c v hc hcv).2 k hk
      rwa [gZ_leaf _ _ _ _ (by omega), show 423 + 120 * v + 3 * k = 423 + 3 * (40 * v + k) + 0 by omega] at this
    · rw [hoff v _ (by omega) (fun c hc e => ho ⟨c, hc, e⟩) (by omega)]; exact w.leaf v k hv hk
  · rw [a5 _ (fun c v' hc hv' => by have := vo_lt hv'; unfold AC1; omega) (by omega) (by omega) (by omega)]; exact w.vol0 v x hv hv' hx
  · rw [a5 _ (fun c v' hc hv' => by have := vo_lt hv'; unfold AC1; omega) (by omega) (by omega) (by omega)]; exact w.leaf0 v k x hv hv' hk hx
  · rw [fr (fun c v hc hv => by unfold AC1; omega) (by omega) (by omega) (by omega)]; exact (w.cra c hc).1
  · cases ho : vo z (nI c) nv with
    | some v => exact (hrec c v hc ho).1.1
    | none =>
      rw [a5 _ (fun c' v' hc' hv' => by
        have := vo_lt hv'
        have : c' ≠ c := fun e => by rw [e, ho] at hv'; cases hv'
        unfold AC1; omega) (by omega) (by omega) (by omega)]
      exact (w.cra c hc).2.1
  · rw [hvo] at hn
    rw [a5 _ (fun c' v' hc' hv' => by
      have := vo_lt hv'
      have : c' ≠ c := fun e => by rw [e, hn] at hv'; cases hv'
      unfold AC1; omega) (by omega) (by omega) (by omega)]
    exact (w.cra c hc).2.2 hn
  · rw [a5 _ (fun c' v' hc' hv' => by have := vo_lt hv'; unfold AC1; omega) (by omega) (by omega) (by omega)]; exact w.cra0 c x hc hc' hx
  · rw [fr (fun c v hc hv => by unfold AC1; omega) (by omega) (by omega) (by omega)]; exact (w.car r hr).1
  · obtain ⟨a, ha, ea⟩ := (w.car r hr).2
    by_cases hn : r < nr
    · exact ⟨a - m, by omega, a2 r a hn (by omega) ea⟩
    · rw [a5 _ (fun c' v' hc' hv' => by have := vo_lt hv'; unfold AC1; omega) (by omega) (by omega) (by omega)]
      exact ⟨a, ha, ea⟩
  · rw [a5 _ (fun c' v' hc' hv' => by have := vo_lt hv'; unfold AC1; omega) (by omega) (by omega) (by omega)]; exact w.car0 r x hr hr' hx
theorem WZ.MN {z : Nat → Int32} {nv nc nr ne : Nat} (w : WZ z nv nc nr ne) (m : Nat) : MN z (mnN nv nc nr z m) nv nc nr m :=
  MN_mn w.zi (fun v hv => by obtain ⟨a, ha, e⟩ := (w.vol v hv).2.2.2.2; exact ⟨a, by omega, e⟩) (fun r hr => by obtain ⟨a, ha, e⟩ := (w.car r (by have := w.nr.2; omega)).2; exact ⟨a, by omega, e⟩) m
theorem WZ_mnN {z : Nat → Int32} {nv nc nr ne : Nat} (w : WZ z nv nc nr ne) (m : Nat) : WZ (mnN nv nc nr z m) nv nc nr ne := WZ_MN w (ZI_mnN w.zi m) (w.MN m)
