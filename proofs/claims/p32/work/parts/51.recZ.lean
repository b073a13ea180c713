/-! the record of a cradle in the reference's cells; a minute -/
def gZ (z : Nat → Int32) (c v : Nat) : Nat → Int32 := fun i => match i with
  | 0 => z (95 + 4 * c + 2)
  | 1 => z (95 + 4 * c + 3)
  | 2 => z (11 + 7 * v + 3)
  | 3 => z (11 + 7 * v + 4)
  | k + 4 => if k < 120 then z (423 + 120 * v + k) else 0
theorem gZ_leaf (z : Nat → Int32) (c v i : Nat) (h : i < 120) : gZ z c v (4 + i) = z (423 + 120 * v + i) := by
  rw [Nat.add_comm 4 i]
  show (if i < 120 then _ else _) = _
  rw [if_pos h]
theorem gT_gZ {T : Nat → Nat → Int32} {z : Nat → Int32} {nv nc c v : Nat} (h : RT T z nv nc) (hc : c < 4) (hv : v < 12) : gT T c v = gZ z c v := by
  obtain ⟨-, -, h3, h4⟩ := h.cra c hc
  funext i
  match i with
  | 0 => exact h3
  | 1 => exact h4
  | 2 => exact h.vol v 3 hv (by omega) (by omega)
  | 3 => exact h.vol v 4 hv (by omega) (by omega)
  | k + 4 =>
    show (if k < 120 then _ else _) = (if k < 120 then _ else _)
    by_cases hk : k < 120
    · rw [if_pos hk, if_pos hk]
      have := h.leaf v (k / 3) (k % 3) hv (by omega) (by omega)
      rw [show v * 120 + (k / 3 * 3 + k % 3) = v * 120 + k by omega, show 423 + 3 * (40 * v + k / 3) + k % 3 = 423 + 120 * v + k by omega] at this
      exact this
    · rw [if_neg hk, if_neg hk]
theorem gZ_congr {z z' : Nat → Int32} {c v : Nat} (h2 : z' (95 + 4 * c + 2) = z (95 + 4 * c + 2)) (h3 : z' (95 + 4 * c + 3) = z (95 + 4 * c + 3)) (h4 : z' (11 + 7 * v + 3) = z (11 + 7 * v + 3)) (h5 : z' (11 + 7 * v + 4) = z (11 + 7 * v + 4)) (h : ∀ k, k < 120 → z' (423 + 120 * v + k) = z (423 + 120 * v + k)) : gZ z' c v = gZ z c v := by
  funext i
  match i with
  | 0 => exact h2
  | 1 => exact h3
  | 2 => exact h4
  | 3 => exact h5
  | k + 4 =>
    show (if k < 120 then _ else _) = (if k < 120 then _ else _)
    by_cases hk : k < 120
    · rw [if_pos hk, if_pos hk, h k hk]
    · rw [if_neg hk, if_neg hk]
/-- the cells of cradle c with volume v -/
def AC1 (c v i : Nat) : Prop := i = 95 + 4 * c + 2 ∨ i = 95 + 4 * c + 3 ∨ i = 11 + 7 * v + 3 ∨ i = 11 + 7 * v + 4 ∨ (423 + 120 * v ≤ i ∧ i < 423 + 120 * v + 120)
theorem sc_frame {z : Nat → Int32} {c v k i : Nat} (hk : k < 40) (h : ¬ AC1 c v i) : F_5scans_z c v k z i = z i := by
  have h1 : i ≠ 95 + 4 * c + 2 := fun e => h (Or.inl e)
  have h2 : i ≠ 95 + 4 * c + 3 := fun e => h (Or.inr (Or.inl e))
  have h3 : i ≠ 11 + 7 * v + 3 := fun e => h (Or.inr (Or.inr (Or.inl e)))
  have h4 : i ≠ 11 + 7 * v + 4 := fun e => h (Or.inr (Or.inr (Or.inr (Or.inl e))))
  have h5 : ¬ (423 + 120 * v ≤ i ∧ i < 423 + 120 * v + 120) := fun e => h (Or.inr (Or.inr (Or.inr (Or.inr e))))
  unfold F_5scans_z
  (repeat' split) <;> (repeat rw [upd_ne (by omega)])
theorem gZ_scan {z : Nat → Int32} {c v k : Nat} (hc : c < 4) (hv : v < 12) (hk : k < 40) : gZ (F_5scans_z c v k z) c v = if z 7 + z 8 * gZ z c v 2 ≤ gZ z c v 0 + nI 1 then scR (z 9) k (gZ z c v) else upd (gZ z c v) 0 (gZ z c v 0 + nI 1) := by
  have l1 : gZ z c v (4 + 3 * k + 1) = z (423 + 3 * (40 * v + k) + 1) := by
    rw [show 4 + 3 * k + 1 = 4 + (3 * k + 1) by omega, gZ_leaf _ _ _ _ (by omega)]
    exact congrArg z (by omega)
  unfold F_5scans_z
  show gZ (if z 7 + z 8 * z (11 + 7 * v + 3) ≤ z (95 + 4 * c + 2) + nI 1 then _ else _) c v = if z 7 + z 8 * z (11 + 7 * v + 3) ≤ z (95 + 4 * c + 2) + nI 1 then _ else _
  by_cases hn : z 7 + z 8 * z (11 + 7 * v + 3) ≤ z (95 + 4 * c + 2) + nI 1
  · rw [if_pos hn, if_pos hn]
    unfold scR
    show gZ (if z (11 + 7 * v + 4) + nI 1 < z 9 then _ else _) c v = if z (11 + 7 * v + 4) + nI 1 < z 9 then _ else _
    by_cases hs : z (11 + 7 * v + 4) + nI 1 < z 9
    · rw [if_pos hs, if_pos hs]
      funext i
      match i with
      | 0 =>
        show upd (upd (upd (upd (upd (upd z _ _) _ _) _ _) _ _) _ _) _ _ (95 + 4 * c + 2) = _
        rw [upd_ne (by omega), upd_ne (by omega), upd_ne (by omega), upd_ne (by omega), upd_eq, upd_ne (by omega), upd_ne (by omega), upd_ne (by omega), upd_ne (by omega), upd_eq]
      | 1 =>
        show upd (upd (upd (upd (upd (upd z _ _) _ _) _ _) _ _) _ _) _ _ (95 + 4 * c + 3) = _
        rw [upd_ne (by omega), upd_ne (by omega), upd_ne (by omega), upd_eq, upd_ne (by omega), upd_ne (by omega), upd_ne (by omega), upd_eq]
        rfl
      | 2 =>
        show upd (upd (upd (upd (upd (upd z _ _) _ _) _ _) _ _) _ _) _ _ (11 + 7 * v + 3) = _
        rw [upd_ne (by omega), upd_ne (by omega), upd_ne (by omega), upd_ne (by omega), upd_ne (by omega), upd_ne (by omega), upd_ne (by omega), upd_ne (by omega), upd_ne (by omega), upd_ne (by omega), upd_ne (by omega)]
        rfl
      | 3 =>
        show upd (upd (upd (upd (upd (upd z _ _) _ _) _ _) _ _) _ _) _ _ (11 + 7 * v + 4) = _
        rw [upd_eq, upd_eq]
        rfl
      | q + 4 =>
        by_cases hq : q < 120
        · show (if q < 120 then upd (upd (upd (upd (upd (upd z _ _) _ _) _ _) _ _) _ _) _ _ (423 + 120 * v + q) else _) = _
          rw [if_pos hq, upd_ne (by omega), upd_ne (show q + 4 ≠ 3 by omega), l1]
          by_cases a : q = 3 * k
          · rw [upd_ne (by omega), show 423 + 120 * v + q = 423 + 3 * (40 * v + k) by omega, upd_eq, upd_ne (by omega), show q + 4 = 4 + 3 * k by omega, upd_eq]
          · by_cases b : q = 3 * k + 1
            · rw [show 423 + 120 * v + q = 423 + 3 * (40 * v + k) + 1 by omega, upd_eq, show q + 4 = 4 + 3 * k + 1 by omega, upd_eq]
            · rw [upd_ne (by omega), upd_ne (by omega), upd_ne (by omega), upd_ne (by omega), upd_ne (by omega), upd_ne (by omega), upd_ne (by omega), upd_ne (by omega), upd_ne (by omega)]
              show _ = if q < 120 then _ else _
              rw [if_pos hq]
        · show (if q < 120 then _ else _) = _
          rw [if_neg hq, upd_ne (by omega), upd_ne (by omega), upd_ne (by omega), upd_ne (by omega), upd_ne (by omega)]
          show _ = if q < 120 then _ else _
          rw [if_neg hq]
    · rw [if_neg hs, if_neg hs]
      funext i
      match i with
      | 0 =>
        show upd (upd (upd (upd (upd (upd (upd (upd z _ _) _ _) _ _) _ _) _ _) _ _) _ _) _ _ (95 + 4 * c + 2) = _
        rw [upd_ne (by omega), upd_ne (by omega), upd_ne (by omega), upd_ne (by omega), upd_ne (by omega), upd_ne (by omega), upd_eq, upd_ne (by omega), upd_ne (by omega), upd_ne (by omega), upd_ne (by omega), upd_ne (by omega), upd_eq]
      | 1 =>
        show upd (upd (upd (upd (upd (upd (upd (upd z _ _) _ _) _ _) _ _) _ _) _ _) _ _) _ _ (95 + 4 * c + 3) = _
        rw [upd_ne (by omega), upd_ne (by omega), upd_ne (by omega), upd_ne (by omega), upd_ne (by omega), upd_eq, upd_ne (by omega), upd_ne (by omega), upd_ne (by omega), upd_ne (by omega), upd_eq]
        rfl
      | 2 =>
        show upd (upd (upd (upd (upd (upd (upd (upd z _ _) _ _) _ _) _ _) _ _) _ _) _ _) _ _ (11 + 7 * v + 3) = _
        rw [upd_eq, upd_eq]
        rfl
      | 3 =>
        show upd (upd (upd (upd (upd (upd (upd (upd z _ _) _ _) _ _) _ _) _ _) _ _) _ _) _ _ (11 + 7 * v + 4) = _
        rw [upd_ne (by omega), upd_eq, upd_ne (by omega), upd_eq]
      | q + 4 =>
        by_cases hq : q < 120
        · show (if q < 120 then upd (upd (upd (upd (upd (upd (upd (upd z _ _) _ _) _ _) _ _) _ _) _ _) _ _) _ _ (423 + 120 * v + q) else _) = _
          rw [if_pos hq, upd_ne (by omega), upd_ne (by omega), upd_ne (by omega), upd_ne (show q + 4 ≠ 2 by omega), upd_ne (show q + 4 ≠ 3 by omega), l1]
          by_cases a : q = 3 * k
          · rw [upd_ne (by omega), show 423 + 120 * v + q = 423 + 3 * (40 * v + k) by omega, upd_eq, upd_ne (by omega), show q + 4 = 4 + 3 * k by omega, upd_eq]
          · by_cases b : q = 3 * k + 1
            · rw [show 423 + 120 * v + q = 423 + 3 * (40 * v + k) + 1 by omega, upd_eq, show q + 4 = 4 + 3 * k + 1 by omega, upd_eq]
            · rw [upd_ne (by omega), upd_ne (by omega), upd_ne (by omega), upd_ne (by omega), upd_ne (by omega), upd_ne (by omega), upd_ne (by omega), upd_ne (by omega), upd_ne (by omega)]
              show _ = if q < 120 then _ else _
              rw [if_pos hq]
        · show (if q < 120 then _ else _) = _
          rw [if_neg hq, upd_ne (by omega), upd_ne (by omega), upd_ne (by omega), upd_ne (by omega), upd_ne (by omega), upd_ne (by omega)]
          show _ = if q < 120 then _ else _
          rw [if_neg hq]
  · rw [if_neg hn, if_neg hn]
    funext i
    match i with
    | 0 =>
      show upd z (95 + 4 * c + 2) _ (95 + 4 * c + 2) = _
      rw [upd_eq, upd_eq]
      rfl
    | 1 =>
      show upd z (95 + 4 * c + 2) _ (95 + 4 * c + 3) = _
      rw [upd_ne (by omega), upd_ne (by omega)]
      rfl
    | 2 =>
      show upd z (95 + 4 * c + 2) _ (11 + 7 * v + 3) = _
      rw [upd_ne (by omega), upd_ne (by omega)]
      rfl
    | 3 =>
      show upd z (95 + 4 * c + 2) _ (11 + 7 * v + 4) = _
      rw [upd_ne (by omega), upd_ne (by omega)]
      rfl
    | q + 4 =>
      rw [upd_ne (by omega)]
      by_cases hq : q < 120
      · show (if q < 120 then upd z (95 + 4 * c + 2) _ (423 + 120 * v + q) else _) = if q < 120 then _ else _
        rw [if_pos hq, if_pos hq, upd_ne (by omega)]
      · show (if q < 120 then _ else _) = if q < 120 then _ else _
        rw [if_neg hq, if_neg hq]
theorem nlO_nlr {z : Nat → Int32} {c v n : Nat} (hn : n ≤ 40) : nlO z v n = nlr (gZ z c v) n := by
  unfold nlr
  refine nlB_congr fun j _ hj => ?_
  rw [gZ_leaf _ _ _ _ (by omega)]
  exact congrArg z (by omega)
theorem F_scans_cnt {z : Nat → Int32} {c v k : Nat} : F_5scans c v z = if z 7 + z 8 * gZ z c v 2 ≤ gZ z c v 0 + nI 1 then nI 1 else nI 0 := by
  unfold F_5scans
  show (if z 7 + z 8 * z (11 + 7 * v + 3) ≤ z (95 + 4 * c + 2) + nI 1 then _ else _) = if z 7 + z 8 * z (11 + 7 * v + 3) ≤ z (95 + 4 * c + 2) + nI 1 then _ else _
  split
  · split <;> rfl
  · rfl
