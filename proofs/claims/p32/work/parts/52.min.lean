/-! A MINUTE in the reference -/
theorem AC1_disj {c c' v v' i : Nat} (hc : c < 4) (hc' : c' < 4) (hv : v < 12) (hv' : v' < 12) (h1 : c ≠ c') (h2 : v ≠ v') (h : AC1 c v i) : ¬ AC1 c' v' i := by
  unfold AC1 at *
  omega
theorem vo_congr {z z' : Nat → Int32} {c : Int32} : ∀ n : Nat, (∀ q, q < n → z' (11 + 7 * q + 5) = z (11 + 7 * q + 5)) → vo z' c n = vo z c n
  | 0, _ => rfl
  | n + 1, h => by
    unfold vo
    rw [h n (by omega), vo_congr n (fun q hq => h q (by omega))]
theorem vo_c {z : Nat → Int32} {n c c' v : Nat} (hc : c < 4) (hc' : c' < 4) (h : vo z (nI c) n = some v) (h' : vo z (nI c') n = some v) : c = c' := by
  have a := (vo_some h).2
  have b := (vo_some h').2
  rw [a] at b
  exact (nI_eq (by omega) (by omega)).mp b
section MST
variable {z : Nat → Int32} {nv nc nr ne c v : Nat} {x : Int32}
theorem mst_none (hv : vo z (nI c) nv = none) : B_5minute_4 nv c x z = (x + nI 0, z) := by
  unfold B_5minute_4
  have h : ¬ idZ z nv c = 0 := by
    unfold idZ
    rw [hv]
    show ¬ nI 1 = 0
    decide
  rw [if_neg h]
theorem mst_some (hZ : ZI z nv nc nr ne) (hc : c < 4) (hv : vo z (nI c) nv = some v) :
    gZ (B_5minute_4 nv c x z).2 c v = (if 0 < z (11 + 7 * v + 6) then gZ z c v else one (z 7) (z 8) (z 9) (z (95 + 4 * c + 1)) (lv z v) (gZ z c v)) ∧ (∀ i, ¬ AC1 c v i → (B_5minute_4 nv c x z).2 i = z i) ∧ (B_5minute_4 nv c x z).1 = x + ((B_5minute_4 nv c x z).2 (95 + 4 * c + 3) - z (95 + 4 * c + 3)) := by
  have hvn := vo_lt hv
  have h12 := hZ.1.2
  have hl := (hZ.2.2.2.2 v hvn).2
  have eg : voG z (nI c) nv = v := by unfold voG; rw [hv]; rfl
  have en : nlO z v (lv z v) = nlr (gZ z c v) (lv z v) := nlO_nlr hl
  have ei : idZ z nv c = if 0 < z (11 + 7 * v + 6) then nI 2 else if z (95 + 4 * c + 1) < z (11 + 7 * v + 3) then nI 3 else if nlO z v (lv z v) = none then nI 4 else nI 0 := by unfold idZ; rw [hv]
  have ez : ∀ y : Int32, x + nI 0 = x + (y - y) := fun y => by rw [Int32.sub_self]; rfl
  unfold B_5minute_4
  rw [eg]
  by_cases h6 : 0 < z (11 + 7 * v + 6)
  · have h : ¬ idZ z nv c = 0 := by rw [ei, if_pos h6]; decide
    rw [if_neg h, if_pos h6]
    exact ⟨rfl, fun _ _ => rfl, ez _⟩
  · rw [if_neg h6] at ei
    rw [if_neg h6]
    unfold one
    rw [← en]
    cases hk : nlO z v (lv z v) with
    | none =>
      rw [hk, if_pos (show (none : Option Nat) = none from rfl)] at ei
      have h : ¬ idZ z nv c = 0 := by rw [ei]; split <;> decide
      rw [if_neg h]
      exact ⟨rfl, fun _ _ => rfl, ez _⟩
    | some k =>
      rw [hk, if_neg (show ¬ some k = (none : Option Nat) from fun q => by cases q)] at ei
      have hk40 : k < 40 := by have := nlB_some hk; omega
      have ek : nlG z v (lv z v) = k := by unfold nlG; rw [hk]; rfl
      show gZ _ c v = (if z (95 + 4 * c + 1) < z (11 + 7 * v + 3) then _ else _) ∧ _
      by_cases h3 : z (95 + 4 * c + 1) < z (11 + 7 * v + 3)
      · rw [if_pos h3] at ei
        have h : ¬ idZ z nv c = 0 := by rw [ei]; decide
        rw [if_neg h, if_pos h3]
        exact ⟨rfl, fun _ _ => rfl, ez _⟩
      · rw [if_neg h3] at ei
        have h : idZ z nv c = 0 := ei
        rw [if_pos h, if_neg h3, ek]
        have e := gZ_scan (z := z) hc (show v < 12 by omega) hk40
        refine ⟨e, fun i hi => sc_frame hk40 hi, ?_⟩
        show x + F_5scans c v z = x + (F_5scans_z c v k z (95 + 4 * c + 3) - z (95 + 4 * c + 3))
        have e1 : F_5scans_z c v k z (95 + 4 * c + 3) = (if z 7 + z 8 * gZ z c v 2 ≤ gZ z c v 0 + nI 1 then scR (z 9) k (gZ z c v) else upd (gZ z c v) 0 (gZ z c v 0 + nI 1)) 1 := congrFun e 1
        rw [e1, F_scans_cnt (k := k)]
        split
        · rw [scR_0.2]
          show x + nI 1 = x + (z (95 + 4 * c + 3) + nI 1 - z (95 + 4 * c + 3))
          rw [Int32.add_comm (z (95 + 4 * c + 3)), Int32.add_sub_cancel]
        · rw [upd_ne (by omega)]
          exact ez _
end MST
/-- scans over the cradles -/
def SC (z : Nat → Int32) : Nat → Int32
  | 0 => 0
  | j + 1 => SC z j + z (95 + 4 * j + 3)
theorem SC_s (z : Nat → Int32) (j : Nat) : SC z (j + 1) = SC z j + z (95 + 4 * j + 3) := rfl
theorem SC_congr {z z' : Nat → Int32} : ∀ j : Nat, (∀ c, c < j → z' (95 + 4 * c + 3) = z (95 + 4 * c + 3)) → SC z' j = SC z j
  | 0, _ => rfl
  | j + 1, h => by
    unfold SC
    rw [SC_congr j (fun c hc => h c (by omega)), h j (by omega)]
theorem i_sub4 (a b c d : Int32) : (a - b) + (c - d) = (a + c) - (b + d) := by
  rw [Int32.sub_eq_add_neg, Int32.sub_eq_add_neg, Int32.sub_eq_add_neg, Int32.neg_add, Int32.sub_eq_add_neg]
  ac_rfl
section MIN
variable {z : Nat → Int32} {nv nc nr ne : Nat}
theorem min4 (hZ : ZI z nv nc nr ne) : ∀ j : Nat, j ≤ nc →
    (∀ i, (∀ c v, c < j → vo z (nI c) nv = some v → ¬ AC1 c v i) → (L_5minute_4 nv z j).2 i = z i) ∧
    (∀ c v, c < j → vo z (nI c) nv = some v → gZ (L_5minute_4 nv z j).2 c v = if 0 < z (11 + 7 * v + 6) then gZ z c v else one (z 7) (z 8) (z 9) (z (95 + 4 * c + 1)) (lv z v) (gZ z c v)) ∧
    (L_5minute_4 nv z j).1 = SC (L_5minute_4 nv z j).2 j - SC z j
  | 0, _ => ⟨fun _ _ => rfl, fun c v h => by omega, by show nI 0 = (0 : Int32) - 0; rfl⟩
  | j + 1, hj => by
    obtain ⟨h1, h2, h3⟩ := min4 hZ j (by omega)
    have h12 := hZ.1.2
    have h4 := hZ.2.1.2
    have hZ' := ZI_min4 hZ j (by omega)
    have hne : ∀ i, (∀ c v, c < 4 → v < 12 → ¬ AC1 c v i) → (L_5minute_4 nv z j).2 i = z i := fun i hi => h1 i fun c v hc hv => hi c v (by omega) (by have := vo_lt hv; omega)
    have hpl : ∀ q, q < nv → (L_5minute_4 nv z j).2 (11 + 7 * q + 5) = z (11 + 7 * q + 5) := fun q hq => hne _ fun c v hc hv => by unfold AC1; omega
    have hvo : ∀ x, vo (L_5minute_4 nv z j).2 x nv = vo z x nv := fun x => vo_congr nv hpl
    show (∀ i, _ → (B_5minute_4 nv j (L_5minute_4 nv z j).1 (L_5minute_4 nv z j).2).2 i = z i) ∧ (∀ c v, _ → _ → gZ (B_5minute_4 nv j (L_5minute_4 nv z j).1 (L_5minute_4 nv z j).2).2 c v = _) ∧ (B_5minute_4 nv j (L_5minute_4 nv z j).1 (L_5minute_4 nv z j).2).1 = SC (B_5minute_4 nv j (L_5minute_4 nv z j).1 (L_5minute_4 nv z j).2).2 (j + 1) - SC z (j + 1)
    have hcj : (L_5minute_4 nv z j).2 (95 + 4 * j + 3) = z (95 + 4 * j + 3) := h1 _ fun c v hc hv => by
      have := vo_lt hv
      unfold AC1
      omega
    cases hv : vo z (nI j) nv with
    | none =>
      rw [mst_none ((hvo _).trans hv)]
      refine ⟨fun i hi => h1 i fun c v hc => hi c v (by omega), fun c v hc hcv => ?_, ?_⟩
      · have : c ≠ j := fun e => by
          rw [e, hv] at hcv
          cases hcv
        exact h2 c v (by omega) hcv
      · show (L_5minute_4 nv z j).1 + nI 0 = _
        rw [SC_s, SC_s, h3, hcj, ← i_sub4, Int32.sub_self]
        rfl
    | some v =>
      have hvn := vo_lt hv
      obtain ⟨m1, m2, m3⟩ := mst_some (x := (L_5minute_4 nv z j).1) hZ' (show j < 4 by omega) ((hvo _).trans hv)
      have hrec : gZ (L_5minute_4 nv z j).2 j v = gZ z j v := by
        have hh : ∀ i, AC1 j v i → (L_5minute_4 nv z j).2 i = z i := fun i hi => h1 i fun c v' hc hcv => by
          have := vo_lt hcv
          refine AC1_disj (by omega) (by omega) (by omega) (by omega) (by omega) (fun e => ?_) hi
          rw [← e] at hcv
          have := vo_c (by omega) (by omega) hv hcv
          omega
        exact gZ_congr (hh _ (Or.inl rfl)) (hh _ (Or.inr (Or.inl rfl))) (hh _ (Or.inr (Or.inr (Or.inl rfl)))) (hh _ (Or.inr (Or.inr (Or.inr (Or.inl rfl))))) fun k hk => hh _ (Or.inr (Or.inr (Or.inr (Or.inr ⟨by omega, by omega⟩))))
      have e6 : (L_5minute_4 nv z j).2 (11 + 7 * v + 6) = z (11 + 7 * v + 6) := hne _ fun c v' hc hv' => by unfold AC1; omega
      have e7 : (L_5minute_4 nv z j).2 7 = z 7 := hne _ fun c v' hc hv' => by unfold AC1; omega
      have e8 : (L_5minute_4 nv z j).2 8 = z 8 := hne _ fun c v' hc hv' => by unfold AC1; omega
      have e9 : (L_5minute_4 nv z j).2 9 = z 9 := hne _ fun c v' hc hv' => by unfold AC1; omega
      have e1 : (L_5minute_4 nv z j).2 (95 + 4 * j + 1) = z (95 + 4 * j + 1) := hne _ fun c v' hc hv' => by unfold AC1; omega
      have el : lv (L_5minute_4 nv z j).2 v = lv z v := by
        unfold lv
        rw [hne _ fun c v' hc hv' => by unfold AC1; omega]
      rw [hrec, e6, e7, e8, e9, e1, el] at m1
      refine ⟨fun i hi => ?_, fun c v' hc hcv => ?_, ?_⟩
      · rw [m2 i (hi j v (by omega) hv)]
        exact h1 i fun c v hc => hi c v (by omega)
      · by_cases e : c = j
        · subst e
          rw [hv] at hcv
          cases hcv
          exact m1
        · have hv' := vo_lt hcv
          rw [← h2 c v' (by omega) hcv]
          have hd : ∀ i, AC1 c v' i → (B_5minute_4 nv j (L_5minute_4 nv z j).1 (L_5minute_4 nv z j).2).2 i = (L_5minute_4 nv z j).2 i := fun i hi => m2 i (AC1_disj (by omega) (by omega) (by omega) (by omega) e (fun q => by
            rw [q] at hcv
            exact e (vo_c (by omega) (by omega) hcv hv)) hi)
          exact gZ_congr (hd _ (Or.inl rfl)) (hd _ (Or.inr (Or.inl rfl))) (hd _ (Or.inr (Or.inr (Or.inl rfl)))) (hd _ (Or.inr (Or.inr (Or.inr (Or.inl rfl))))) fun k hk => hd _ (Or.inr (Or.inr (Or.inr (Or.inr ⟨by omega, by omega⟩))))
      · rw [m3, SC_s, SC_s, hcj, SC_congr (z := (L_5minute_4 nv z j).2) (z' := (B_5minute_4 nv j (L_5minute_4 nv z j).1 (L_5minute_4 nv z j).2).2) j (fun c hc => m2 _ (by unfold AC1; omega))]
        generalize (B_5minute_4 nv j (L_5minute_4 nv z j).1 (L_5minute_4 nv z j).2).2 (95 + 4 * j + 3) = y
        rw [h3, i_sub4]
/-- a minute less -/
def dec (x : Int32) : Int32 := if x ≤ 0 then x - nI 0 else x - nI 1
theorem min42 : ∀ j : Nat, j ≤ 3 → (∀ r, r < j → L_5minute_42 nv nc z j (111 + 4 * r + 1) = dec ((L_5minute_4 nv z nc).2 (111 + 4 * r + 1))) ∧ ∀ i, (∀ r, r < j → i ≠ 111 + 4 * r + 1) → L_5minute_42 nv nc z j i = (L_5minute_4 nv z nc).2 i
  | 0, _ => ⟨fun r h => by omega, fun _ _ => rfl⟩
  | j + 1, hj => by
    obtain ⟨h1, h2⟩ := min42 j (by omega)
    have e : L_5minute_42 nv nc z (j + 1) = upd (L_5minute_42 nv nc z j) (111 + 4 * j + 1) (dec (L_5minute_42 nv nc z j (111 + 4 * j + 1))) := by
      show B_5minute_42 j (L_5minute_42 nv nc z j) = _
      unfold B_5minute_42 dec
      split <;> rfl
    rw [e]
    refine ⟨fun r hr => ?_, fun i hi => ?_⟩
    · by_cases q : r = j
      · subst q
        rw [upd_eq, h2 _ (fun r' hr' => by omega)]
      · rw [upd_ne (by omega), h1 r (by omega)]
    · rw [upd_ne (hi j (by omega)), h2 i fun r hr => hi r (by omega)]
theorem min90 : ∀ j : Nat, j ≤ 12 → (∀ v, v < j → L_5minute_90 nv nc nr z j (11 + 7 * v + 6) = dec (L_5minute_42 nv nc z nr (11 + 7 * v + 6))) ∧ ∀ i, (∀ v, v < j → i ≠ 11 + 7 * v + 6) → L_5minute_90 nv nc nr z j i = L_5minute_42 nv nc z nr i
  | 0, _ => ⟨fun r h => by omega, fun _ _ => rfl⟩
  | j + 1, hj => by
    obtain ⟨h1, h2⟩ := min90 j (by omega)
    have e : L_5minute_90 nv nc nr z (j + 1) = upd (L_5minute_90 nv nc nr z j) (11 + 7 * j + 6) (dec (L_5minute_90 nv nc nr z j (11 + 7 * j + 6))) := by
      show B_5minute_90 j (L_5minute_90 nv nc nr z j) = _
      unfold B_5minute_90 dec
      split <;> rfl
    rw [e]
    refine ⟨fun r hr => ?_, fun i hi => ?_⟩
    · by_cases q : r = j
      · subst q
        rw [upd_eq, h2 _ (fun r' hr' => by omega)]
      · rw [upd_ne (by omega), h1 r (by omega)]
    · rw [upd_ne (hi j (by omega)), h2 i fun r hr => hi r (by omega)]
end MIN
