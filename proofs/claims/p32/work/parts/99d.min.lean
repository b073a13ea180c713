/-! A MINUTE of the law on the cells -/
section MINU
variable {V S N R st z : Nat → Int32} {nv nc nr ne : Nat}
theorem LC.updR (h : LC V S N R st z nv nc) {c w : Nat} {x y : Int32} (hc : c < 2) (hw : w < 4) (e : x = y) : LC V S N (upd R (4 * c + w) x) st (upd z (95 + 4 * c + w) y) nv nc := by
  subst e
  obtain ⟨h1, h2, h3, h4, h5, h6, h7, h8, h9⟩ := h
  refine ⟨fun k hk => ?_, fun v u hv hu h0 => ?_, fun v hv => ?_, fun v k hv hk => ?_, fun v k hv hk => ?_, fun c' w' hc' hw' => ?_, fun v hv => ?_, h8, h9⟩
  · rw [upd_ne (by omega)]; exact h1 k hk
  · rw [upd_ne (by omega)]; exact h2 v u hv hu h0
  · rw [upd_ne (by omega)]; exact h3 v hv
  · rw [upd_ne (by omega)]; exact h4 v k hv hk
  · rw [upd_ne (by omega)]; exact h5 v k hv hk
  · by_cases q : 4 * c' + w' = 4 * c + w
    · rw [q, upd_eq, show 95 + 4 * c' + w' = 95 + 4 * c + w by omega, upd_eq]
    · rw [upd_ne q, upd_ne (by omega)]; exact h6 c' w' hc' hw'
  · unfold lv; rw [upd_ne (by omega)]; exact h7 v hv
theorem LC.updV (h : LC V S N R st z nv nc) {v w : Nat} {x y : Int32} (hv : v < 4) (hw : w < 7) (h5 : w ≠ 5) (h2' : w ≠ 2) (e : x = y) : LC (upd V (7 * v + w) x) S N R st (upd z (11 + 7 * v + w) y) nv nc := by
  subst e
  obtain ⟨h1, h2, h3, h4, h5', h6, h7, h8, h9⟩ := h
  refine ⟨fun k hk => ?_, fun v' u hv' hu h0 => ?_, fun v' hv' => ?_, fun v' k hv' hk => ?_, fun v' k hv' hk => ?_, fun c' w' hc' hw' => ?_, fun v' hv' => ?_, h8, h9⟩
  · rw [upd_ne (by omega)]; exact h1 k hk
  · by_cases q : 7 * v' + u = 7 * v + w
    · rw [q, upd_eq, show 11 + 7 * v' + u = 11 + 7 * v + w by omega, upd_eq]
    · rw [upd_ne q, upd_ne (by omega)]; exact h2 v' u hv' hu h0
  · rw [upd_ne (by omega), upd_ne (by omega)]; exact h3 v' hv'
  · rw [upd_ne (by omega)]; exact h4 v' k hv' hk
  · rw [upd_ne (by omega)]; exact h5' v' k hv' hk
  · rw [upd_ne (by omega)]; exact h6 c' w' hc' hw'
  · unfold lv; rw [upd_ne (by omega)]; exact h7 v' hv'
theorem LC.updS (h : LC V S N R st z nv nc) {v k : Nat} {x y : Int32} (hv : v < 4) (hk : k < 8) (e : x = y) : LC V (upd S (8 * v + k) x) N R st (upd z (423 + 3 * (40 * v + k)) y) nv nc := by
  subst e
  obtain ⟨h1, h2, h3, h4, h5', h6, h7, h8, h9⟩ := h
  refine ⟨fun k hk => ?_, fun v' u hv' hu h0 => ?_, fun v' hv' => ?_, fun v' k' hv' hk' => ?_, fun v' k' hv' hk' => ?_, fun c' w' hc' hw' => ?_, fun v' hv' => ?_, h8, h9⟩
  · rw [upd_ne (by omega)]; exact h1 _ hk
  · rw [upd_ne (by omega)]; exact h2 v' u hv' hu h0
  · rw [upd_ne (by omega)]; exact h3 v' hv'
  · by_cases q : 8 * v' + k' = 8 * v + k
    · rw [q, upd_eq, show 423 + 3 * (40 * v' + k') + 0 = 423 + 3 * (40 * v + k) by omega, upd_eq]
    · rw [upd_ne q, upd_ne (by omega)]; exact h4 v' k' hv' hk'
  · rw [upd_ne (by omega)]; exact h5' v' k' hv' hk'
  · rw [upd_ne (by omega)]; exact h6 c' w' hc' hw'
  · unfold lv; rw [upd_ne (by omega)]; exact h7 v' hv'
theorem LC.updN (h : LC V S N R st z nv nc) {v k : Nat} {x y : Int32} (hv : v < 4) (hk : k < 8) (e : x = y) : LC V S (upd N (8 * v + k) x) R st (upd z (423 + 3 * (40 * v + k) + 1) y) nv nc := by
  subst e
  obtain ⟨h1, h2, h3, h4, h5', h6, h7, h8, h9⟩ := h
  refine ⟨fun k hk => ?_, fun v' u hv' hu h0 => ?_, fun v' hv' => ?_, fun v' k' hv' hk' => ?_, fun v' k' hv' hk' => ?_, fun c' w' hc' hw' => ?_, fun v' hv' => ?_, h8, h9⟩
  · rw [upd_ne (by omega)]; exact h1 _ hk
  · rw [upd_ne (by omega)]; exact h2 v' u hv' hu h0
  · rw [upd_ne (by omega)]; exact h3 v' hv'
  · rw [upd_ne (by omega)]; exact h4 v' k' hv' hk'
  · by_cases q : 8 * v' + k' = 8 * v + k
    · rw [q, upd_eq, show 423 + 3 * (40 * v' + k') + 1 = 423 + 3 * (40 * v + k) + 1 by omega, upd_eq]
    · rw [upd_ne q, upd_ne (by omega)]; exact h5' v' k' hv' hk'
  · rw [upd_ne (by omega)]; exact h6 c' w' hc' hw'
  · unfold lv; rw [upd_ne (by omega)]; exact h7 v' hv'
/-- cells that the law's minute doesn't read -/
theorem LC.updO (h : LC V S N R st z nv nc) {i : Nat} {y : Int32} (hi : i < 7 ∨ (111 ≤ i ∧ i < 423)) : LC V S N R st (upd z i y) nv nc := by
  obtain ⟨h1, h2, h3, h4, h5', h6, h7, h8, h9⟩ := h
  have h4' := h8
  refine ⟨fun k hk => ?_, fun v' u hv' hu h0 => ?_, fun v' hv' => ?_, fun v' k' hv' hk' => ?_, fun v' k' hv' hk' => ?_, fun c' w' hc' hw' => ?_, fun v' hv' => ?_, h8, h9⟩
  · rw [upd_ne (by omega)]; exact h1 _ hk
  · rw [upd_ne (by omega)]; exact h2 v' u hv' hu h0
  · rw [upd_ne (by omega)]; exact h3 v' hv'
  · rw [upd_ne (by omega)]; exact h4 v' k' hv' hk'
  · rw [upd_ne (by omega)]; exact h5' v' k' hv' hk'
  · rw [upd_ne (by omega)]; exact h6 c' w' hc' hw'
  · unfold lv; rw [upd_ne (by omega)]; exact h7 v' hv'
theorem PU.of {z z' : Nat → Int32} (h : PU z nv) (e : ∀ v, v < nv → z' (11 + 7 * v + 5) = z (11 + 7 * v + 5)) : PU z' nv := by
  intro v v' hv hv' h1 h2
  rw [e v hv] at h1 h2
  rw [e v' hv'] at h1
  exact h v v' hv hv' h1 h2
theorem id_0 {c : Nat} (h : idZ z nv c = 0) : ∃ v k, vo z (nI c) nv = some v ∧ nlO z v (lv z v) = some k := by
  unfold idZ at h
  cases hv : vo z (nI c) nv with
  | none => rw [hv] at h; exact absurd (show nI 1 = 0 from h) (by decide)
  | some v =>
    rw [hv] at h
    dsimp only at h
    split at h
    · exact absurd h (by decide)
    · split at h
      · exact absurd h (by decide)
      · split at h
        · exact absurd h (by decide)
        · rename_i hn
          cases hk : nlO z v (lv z v) with
          | none => exact absurd hk hn
          | some k => exact ⟨v, k, rfl, hk⟩
theorem id_le {c : Nat} : idZ z nv c ≤ 0 ↔ idZ z nv c = 0 := by
  unfold idZ
  (repeat' split) <;> decide
theorem scans_1 {c v : Nat} (h : (z 7) + ((z 8) * (z (11 + 7 * v + 3))) ≤ (z ((95 + (4 * c)) + 2)) + (nI (1))) : F_5scans c v z = nI 1 := by
  unfold F_5scans
  rw [if_pos h]
  split <;> rfl
theorem lm_step (h : LC V S N R st z nv nc) (hZ : ZI z nv nc nr ne) (hu : PU z nv) {j : Nat} (hj : j < nc) (x : Int32) : (B_Lminute_6 nv st j x V S N R).1 = (B_5minute_4 nv j x z).1 ∧ LC (B_Lminute_6 nv st j x V S N R).2.1 (B_Lminute_6 nv st j x V S N R).2.2.1 (B_Lminute_6 nv st j x V S N R).2.2.2.1 (B_Lminute_6 nv st j x V S N R).2.2.2.2 st (B_5minute_4 nv j x z).2 nv nc ∧ PU (B_5minute_4 nv j x z).2 nv := by
  have h2 := h.n2
  have h4 := h.n4
  have ei := id_eq h hu hj
  unfold B_Lminute_6 B_5minute_4
  rw [ei]
  by_cases hid : idZ z nv j = 0
  · obtain ⟨v, k, hv, hk⟩ := id_0 hid
    have hvn := vo_lt hv
    have hl8 := h.l8 v hvn
    have hkn : k < lv z v := nlB_lt hk
    have ev : voG z (nI j) nv = v := by unfold voG; rw [hv]; rfl
    have ek : nlG z v (lv z v) = k := by unfold nlG; rw [hk]; rfl
    have ev' : onG V (nI j) nv = v := by rw [onG_eq h hu (by omega), ev]
    have ek' : nxG V S v = k := by rw [nxG_eq h hvn, ek]
    rw [if_pos (id_le.mpr hid), if_pos hid, ev, ev', ek, ek']
    have e0 : st 0 = z 7 := h.se 0 (by omega)
    have e1 : st 1 = z 8 := h.se 1 (by omega)
    have e2 : st 2 = z 9 := h.se 2 (by omega)
    have e3 : V (7 * v + 3) = z (11 + 7 * v + 3) := h.vol v 3 (by omega) (by omega) (by omega)
    have e4 : V (7 * v + 4) = z (11 + 7 * v + 4) := h.vol v 4 (by omega) (by omega) (by omega)
    have r2 : R (4 * j + 2) = z (95 + 4 * j + 2) := h.cra j 2 (by omega) (by omega)
    have r3 : R (4 * j + 3) = z (95 + 4 * j + 3) := h.cra j 3 (by omega) (by omega)
    have en : N (8 * v + k) = z (423 + 3 * (40 * v + k) + 1) := h.ln v k (by omega) (by omega)
    have hpu : ∀ (i : Nat) (y : Int32) (z1 : Nat → Int32), (∀ q, q < nv → i ≠ 11 + 7 * q + 5) → PU z1 nv → PU (upd z1 i y) nv := fun i y z1 hi hz => PU.of hz (fun q hq => upd_ne (fun e => hi q hq e.symm))
    rw [e0, e1, e2, e3, e4, r2, r3, en]
    have s1 := h.updR (c := j) (w := 2) (x := z (95 + 4 * j + 2) + nI 1) (by omega) (by omega) rfl
    by_cases hc : z 7 + z 8 * z (11 + 7 * v + 3) ≤ z (95 + 4 * j + 2) + nI 1
    · have s2 := s1.updR (c := j) (w := 2) (x := nI 0) (by omega) (by omega) rfl
      have s3 := s2.updR (c := j) (w := 3) (x := z (95 + 4 * j + 3) + nI 1) (by omega) (by omega) rfl
      have s4 := s3.updS (v := v) (k := k) (x := nI 1) (by omega) (by omega) rfl
      have s5 := s4.updN (v := v) (k := k) (x := z (423 + 3 * (40 * v + k) + 1) + nI 1) (by omega) (by omega) rfl
      have s6 := s5.updV (v := v) (w := 4) (x := z (11 + 7 * v + 4) + nI 1) (by omega) (by omega) (by omega) (by omega) rfl
      rw [if_pos hc, scans_1 hc]
      unfold F_5scans_z
      rw [if_pos hc]
      by_cases hs : z (11 + 7 * v + 4) + nI 1 < z 9
      · rw [if_neg (Int32.not_le.mpr hs), if_pos hs]
        exact ⟨rfl, s6, by refine hpu _ _ _ (fun q hq => by omega) (hpu _ _ _ (fun q hq => by omega) (hpu _ _ _ (fun q hq => by omega) (hpu _ _ _ (fun q hq => by omega) (hpu _ _ _ (fun q hq => by omega) (hpu _ _ _ (fun q hq => by omega) hu)))))⟩
      · have s7 := s6.updV (v := v) (w := 4) (x := nI 0) (by omega) (by omega) (by omega) (by omega) rfl
        have s8 := s7.updV (v := v) (w := 3) (x := z (11 + 7 * v + 3) + nI 1) (by omega) (by omega) (by omega) (by omega) rfl
        rw [if_pos (Int32.not_lt.mp hs), if_neg hs]
        exact ⟨rfl, s8, by refine hpu _ _ _ (fun q hq => by omega) (hpu _ _ _ (fun q hq => by omega) (hpu _ _ _ (fun q hq => by omega) (hpu _ _ _ (fun q hq => by omega) (hpu _ _ _ (fun q hq => by omega) (hpu _ _ _ (fun q hq => by omega) (hpu _ _ _ (fun q hq => by omega) (hpu _ _ _ (fun q hq => by omega) hu)))))))⟩
    · rw [if_neg hc]
      have ef : F_5scans j v z = nI 0 := by unfold F_5scans; rw [if_neg hc]
      rw [ef]
      unfold F_5scans_z
      rw [if_neg hc]
      refine ⟨?_, s1, hpu _ _ _ (fun q hq => by omega) hu⟩
      show x = x + nI 0
      rw [i_a0]
  · rw [if_neg (fun q => hid (id_le.mp q)), if_neg hid]
    refine ⟨?_, h, hu⟩
    show x = x + nI 0
    rw [i_a0]
theorem lm_6 (h : LC V S N R st z nv nc) (hZ : ZI z nv nc nr ne) (hu : PU z nv) : ∀ j : Nat, j ≤ nc → (L_Lminute_6 nv V S N R st j).1 = (L_5minute_4 nv z j).1 ∧ LC (L_Lminute_6 nv V S N R st j).2.1 (L_Lminute_6 nv V S N R st j).2.2.1 (L_Lminute_6 nv V S N R st j).2.2.2.1 (L_Lminute_6 nv V S N R st j).2.2.2.2 st (L_5minute_4 nv z j).2 nv nc ∧ PU (L_5minute_4 nv z j).2 nv
  | 0, _ => ⟨rfl, h, hu⟩
  | j + 1, hj => by
    obtain ⟨i1, i2, i3⟩ := lm_6 h hZ hu j (by omega)
    have h2 := h.n2
    have := lm_step (j := j) i2 (ZI_min4 hZ j (by omega)) i3 (by omega) (L_Lminute_6 nv V S N R st j).1
    have e : L_5minute_4 nv z (j + 1) = B_5minute_4 nv j (L_Lminute_6 nv V S N R st j).1 (L_5minute_4 nv z j).2 := by rw [i1]; rfl
    rw [e]
    exact this
theorem lm_202 {A : Nat → Int32} : ∀ j : Nat, (∀ r, r < j → L_Lminute_202 A j (4 * r + 1) = dec (A (4 * r + 1))) ∧ ∀ i, (∀ r, r < j → i ≠ 4 * r + 1) → L_Lminute_202 A j i = A i
  | 0 => ⟨fun r hr => absurd hr (by omega), fun i _ => rfl⟩
  | j + 1 => by
    obtain ⟨i1, i2⟩ := lm_202 (A := A) j
    have ej : L_Lminute_202 A j (4 * j + 1) = A (4 * j + 1) := i2 _ fun r hr => by omega
    show (∀ r, r < j + 1 → B_Lminute_202 j (L_Lminute_202 A j) (4 * r + 1) = dec (A (4 * r + 1))) ∧ ∀ i, (∀ r, r < j + 1 → i ≠ 4 * r + 1) → B_Lminute_202 j (L_Lminute_202 A j) i = A i
    unfold B_Lminute_202
    rw [ej]
    refine ⟨fun r hr => ?_, fun i hi => ?_⟩
    · by_cases e : r = j
      · subst e
        unfold dec
        split
        · rw [ej, nI_0, Int32.sub_zero]
        · rw [upd_eq]
      · split
        · exact i1 r (by omega)
        · rw [upd_ne (by omega)]; exact i1 r (by omega)
    · split
      · exact i2 i fun r hr => hi r (by omega)
      · rw [upd_ne (hi j (by omega))]; exact i2 i fun r hr => hi r (by omega)
theorem lm_245 : ∀ j : Nat, (∀ v, v < j → L_Lminute_245 nv nc V S N R st j (7 * v + 6) = dec ((L_Lminute_6 nv V S N R st nc).2.1 (7 * v + 6))) ∧ ∀ i, (∀ v, v < j → i ≠ 7 * v + 6) → L_Lminute_245 nv nc V S N R st j i = (L_Lminute_6 nv V S N R st nc).2.1 i
  | 0 => ⟨fun r hr => absurd hr (by omega), fun i _ => rfl⟩
  | j + 1 => by
    obtain ⟨i1, i2⟩ := lm_245 j
    have ej : L_Lminute_245 nv nc V S N R st j (7 * j + 6) = (L_Lminute_6 nv V S N R st nc).2.1 (7 * j + 6) := i2 _ fun r hr => by omega
    show (∀ v, v < j + 1 → B_Lminute_245 j (L_Lminute_245 nv nc V S N R st j) (7 * v + 6) = dec ((L_Lminute_6 nv V S N R st nc).2.1 (7 * v + 6))) ∧ ∀ i, (∀ v, v < j + 1 → i ≠ 7 * v + 6) → B_Lminute_245 j (L_Lminute_245 nv nc V S N R st j) i = (L_Lminute_6 nv V S N R st nc).2.1 i
    unfold B_Lminute_245
    rw [ej]
    refine ⟨fun r hr => ?_, fun i hi => ?_⟩
    · by_cases e : r = j
      · subst e
        unfold dec
        split
        · rw [ej, nI_0, Int32.sub_zero]
        · rw [upd_eq]
      · split
        · exact i1 r (by omega)
        · rw [upd_ne (by omega)]; exact i1 r (by omega)
    · split
      · exact i2 i fun r hr => hi r (by omega)
      · rw [upd_ne (hi j (by omega))]; exact i2 i fun r hr => hi r (by omega)
/-- the cells after a minute, away from ways and carriers -/
theorem mz_o (hZ : ZI z nv nc nr ne) {i : Nat} (h3 : i ≠ 3) (h1 : ∀ r, r < nr → i ≠ 111 + 4 * r + 1) (h2 : ∀ v, v < nv → i ≠ 11 + 7 * v + 6) : F_5minute_z nv nc nr z i = (L_5minute_4 nv z nc).2 i := by
  unfold F_5minute_z
  rw [upd_ne h3, (min90 nv (by have := hZ.1.2; omega)).2 i h2, (min42 nr (by have := hZ.2.2.1.2; omega)).2 i h1]
theorem mz_v (hZ : ZI z nv nc nr ne) {v : Nat} (hv : v < nv) : F_5minute_z nv nc nr z (11 + 7 * v + 6) = dec ((L_5minute_4 nv z nc).2 (11 + 7 * v + 6)) := by
  have h12 := hZ.1.2
  unfold F_5minute_z
  rw [upd_ne (by omega), (min90 nv (by omega)).1 v hv, (min42 nr (by have := hZ.2.2.1.2; omega)).2 _ (fun r hr => by omega)]
theorem mz_r (hZ : ZI z nv nc nr ne) {r : Nat} (hr : r < nr) : F_5minute_z nv nc nr z (111 + 4 * r + 1) = dec ((L_5minute_4 nv z nc).2 (111 + 4 * r + 1)) := by
  have h12 := hZ.1.2
  unfold F_5minute_z
  rw [upd_ne (by omega), (min90 nv (by omega)).2 _ (fun v hv => by omega), (min42 nr (by have := hZ.2.2.1.2; omega)).1 r hr]
theorem lm_minute (h : LC V S N R st z nv nc) (hZ : ZI z nv nc nr ne) (hu : PU z nv) : LC (F_Lminute_vo nv nc V S N R st) (F_Lminute_ls nv nc V S N R st) (F_Lminute_ln nv nc V S N R st) (F_Lminute_cr nv nc V S N R st) st (F_5minute_z nv nc nr z) nv nc ∧ PU (F_5minute_z nv nc nr z) nv ∧ F_Lminute nv nc V S N R st = F_5minute nv nc z := by
  obtain ⟨e, h', hu'⟩ := lm_6 h hZ hu nc (Nat.le_refl _)
  have h3 := hZ.2.2.1.2
  have hp : ∀ v, v < nv → F_5minute_z nv nc nr z (11 + 7 * v + 5) = (L_5minute_4 nv z nc).2 (11 + 7 * v + 5) := fun v hv => mz_o hZ (by omega) (fun r hr => by have := h.n4; omega) (fun q hq => by omega)
  refine ⟨?_, PU.of hu' hp, e⟩
  obtain ⟨g1, g2, g3, g4, g5, g6, g7, g8, g9⟩ := h'
  unfold F_Lminute_vo F_Lminute_ls F_Lminute_ln F_Lminute_cr
  refine ⟨fun k hk => ?_, fun v w hv hw h0 => ?_, fun v hv => ?_, fun v k hv hk => ?_, fun v k hv hk => ?_, fun c w hc hw => ?_, fun v hv => ?_, g8, g9⟩
  · rw [mz_o hZ (by omega) (fun r hr => by omega) (fun q hq => by omega)]; exact g1 k hk
  · by_cases e6 : w = 6 ∧ v < nv
    · obtain ⟨rfl, hvn⟩ := e6
      rw [(lm_245 nv).1 v hvn, mz_v hZ hvn, g2 v 6 hv (by omega) (by omega)]
    · rw [(lm_245 nv).2 _ (fun q hq => by omega), mz_o hZ (by omega) (fun r hr => by omega) (fun q hq => by omega)]
      exact g2 v w hv hw h0
  · rw [(lm_245 nv).2 _ (fun q hq => by omega), hp v hv]
    exact g3 v hv
  · rw [mz_o hZ (by omega) (fun r hr => by omega) (fun q hq => by omega)]; exact g4 v k hv hk
  · rw [mz_o hZ (by omega) (fun r hr => by omega) (fun q hq => by omega)]; exact g5 v k hv hk
  · rw [mz_o hZ (by omega) (fun r hr => by omega) (fun q hq => by omega)]; exact g6 c w hc hw
  · unfold lv
    rw [mz_o hZ (by omega) (fun r hr => by omega) (fun q hq => by omega)]; exact g7 v hv
/-- a minute's law, over and over -/
theorem mnN_s (j : Nat) : mnN nv nc nr z (j + 1) = F_5minute_z nv nc nr (mnN nv nc nr z j) := rfl
end MINU
