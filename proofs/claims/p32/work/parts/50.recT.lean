/-! the record of a cradle in the class's tables -/
def gT (T : Nat → Nat → Int32) (c v : Nat) : Nat → Int32 := fun i => match i with
  | 0 => T 2 (c * 5 + 3)
  | 1 => T 2 (c * 5 + 4)
  | 2 => T 0 (v * 7 + 3)
  | 3 => T 0 (v * 7 + 4)
  | k + 4 => if k < 120 then T 1 (v * 120 + k) else 0
theorem gT_leaf (T : Nat → Nat → Int32) (c v i : Nat) (h : i < 120) : gT T c v (4 + i) = T 1 (v * 120 + i) := by
  rw [Nat.add_comm 4 i]
  show (if i < 120 then _ else _) = _
  rw [if_pos h]
theorem gT_nl {T : Nat → Nat → Int32} {c v : Nat} (h : HLv T v) : F_0nextLeaf v T = oI (nlr (gT T c v) (lt T v)) := by
  have h40 := h.2
  unfold F_0nextLeaf
  rw [nlW _ _ (by omega)]
  congr 1
  unfold nlr
  refine nlB_congr fun j _ hj => ?_
  rw [gT_leaf _ _ _ _ (by omega)]
  exact congrArg (T 1) (by omega)
theorem gT_scan {T : Nat → Nat → Int32} {c v k : Nat} (hk : k < 40) {f2 : Nat → Int32} (h2 : f2 = upd (upd (T 2) ((c * 5) + 3) (nI (0))) ((c * 5) + 4) (((upd (T 2) ((c * 5) + 3) (nI (0))) ((c * 5) + 4)) + (nI (1)))) :
    gT (F_0scan_T v k (tu T 2 f2)) c v = scR (T 5 9) k (gT T c v) := by
  have e0 : f2 (c * 5 + 3) = nI 0 := by rw [h2, upd_ne (by omega), upd_eq]
  have e1 : f2 (c * 5 + 4) = T 2 (c * 5 + 4) + nI 1 := by rw [h2, upd_eq, upd_ne (by omega)]
  have l1 : gT T c v (4 + 3 * k + 1) = T 1 (v * 120 + ((k * 3) + 1)) := by
    rw [show 4 + 3 * k + 1 = 4 + (3 * k + 1) by omega, gT_leaf _ _ _ _ (by omega)]
    exact congrArg (T 1) (by omega)
  have hL : ∀ q, q < 120 → (upd (upd (T 1) ((v * 120) + ((k * 3) + 0)) (nI (1))) ((v * 120) + ((k * 3) + 1)) (((upd (T 1) ((v * 120) + ((k * 3) + 0)) (nI (1))) ((v * 120) + ((k * 3) + 1))) + (nI (1)))) (v * 120 + q) = if q = 3 * k then nI 1 else if q = 3 * k + 1 then T 1 (v * 120 + ((k * 3) + 1)) + nI 1 else T 1 (v * 120 + q) := by
    intro q hq
    by_cases a : q = 3 * k
    · rw [if_pos a, upd_ne (by omega), a, show v * 120 + 3 * k = v * 120 + (k * 3 + 0) by omega, upd_eq]
    · rw [if_neg a]
      by_cases b : q = 3 * k + 1
      · rw [if_pos b, b, show v * 120 + (3 * k + 1) = v * 120 + (k * 3 + 1) by omega, upd_eq, upd_ne (by omega)]
      · rw [if_neg b, upd_ne (by omega), upd_ne (by omega)]
  unfold F_0scan_T scR
  show gT (if T 0 (v * 7 + 4) + nI 1 < T 5 9 then _ else _) c v = if T 0 (v * 7 + 4) + nI 1 < T 5 9 then _ else _
  by_cases hs : T 0 (v * 7 + 4) + nI 1 < T 5 9
  · rw [if_pos hs, if_pos hs]
    funext i
    match i with
    | 0 =>
      show f2 (c * 5 + 3) = _
      rw [e0, upd_ne (by omega), upd_ne (by omega), upd_ne (by omega), upd_ne (by omega), upd_eq]
    | 1 =>
      show f2 (c * 5 + 4) = _
      rw [e1, upd_ne (by omega), upd_ne (by omega), upd_ne (by omega), upd_eq]
      rfl
    | 2 =>
      show upd (T 0) (v * 7 + 4) _ (v * 7 + 3) = _
      rw [upd_ne (by omega), upd_ne (by omega), upd_ne (by omega), upd_ne (by omega), upd_ne (by omega), upd_ne (by omega)]
      rfl
    | 3 =>
      show upd (T 0) (v * 7 + 4) _ (v * 7 + 4) = _
      rw [upd_eq, upd_eq]
      rfl
    | q + 4 =>
      by_cases hq : q < 120
      · show (if q < 120 then _ else _) = _
        rw [if_pos hq]
        refine (hL q hq).trans ?_
        rw [upd_ne (show q + 4 ≠ 3 by omega), l1]
        by_cases a : q = 3 * k
        · rw [if_pos a, upd_ne (by omega), show q + 4 = 4 + 3 * k by omega, upd_eq]
        · rw [if_neg a]
          by_cases b : q = 3 * k + 1
          · rw [if_pos b, show q + 4 = 4 + 3 * k + 1 by omega, upd_eq]
          · rw [if_neg b, upd_ne (by omega), upd_ne (by omega), upd_ne (by omega), upd_ne (by omega)]
            show _ = if q < 120 then _ else _
            rw [if_pos hq]
      · show (if q < 120 then _ else _) = _
        rw [if_neg hq, upd_ne (by omega), upd_ne (by omega), upd_ne (by omega), upd_ne (by omega), upd_ne (by omega)]
        show _ = if q < 120 then _ else _
        rw [if_neg hq]
  · rw [if_neg hs, if_neg hs]
    funext i
    match i with
    | 0 =>
      show f2 (c * 5 + 3) = _
      rw [e0, upd_ne (by omega), upd_ne (by omega), upd_ne (by omega), upd_ne (by omega), upd_ne (by omega), upd_eq]
    | 1 =>
      show f2 (c * 5 + 4) = _
      rw [e1, upd_ne (by omega), upd_ne (by omega), upd_ne (by omega), upd_ne (by omega), upd_eq]
      rfl
    | 2 =>
      show upd _ (v * 7 + 3) _ (v * 7 + 3) = _
      rw [upd_eq, upd_eq, upd_ne (by omega)]
      show upd (T 0) _ _ _ + _ = _
      rw [upd_ne (by omega)]
      rfl
    | 3 =>
      show upd (upd _ (v * 7 + 4) _) (v * 7 + 3) _ (v * 7 + 4) = _
      rw [upd_ne (by omega), upd_eq, upd_ne (by omega), upd_eq]
    | q + 4 =>
      by_cases hq : q < 120
      · show (if q < 120 then _ else _) = _
        rw [if_pos hq]
        refine (hL q hq).trans ?_
        rw [upd_ne (show q + 4 ≠ 2 by omega), upd_ne (show q + 4 ≠ 3 by omega), l1]
        by_cases a : q = 3 * k
        · rw [if_pos a, upd_ne (by omega), show q + 4 = 4 + 3 * k by omega, upd_eq]
        · rw [if_neg a]
          by_cases b : q = 3 * k + 1
          · rw [if_pos b, show q + 4 = 4 + 3 * k + 1 by omega, upd_eq]
          · rw [if_neg b, upd_ne (by omega), upd_ne (by omega), upd_ne (by omega), upd_ne (by omega)]
            show _ = if q < 120 then _ else _
            rw [if_pos hq]
      · show (if q < 120 then _ else _) = _
        rw [if_neg hq, upd_ne (by omega), upd_ne (by omega), upd_ne (by omega), upd_ne (by omega), upd_ne (by omega), upd_ne (by omega)]
        show _ = if q < 120 then _ else _
        rw [if_neg hq]
theorem gT_work {T : Nat → Nat → Int32} {c v : Nat} {x : Int32} : gT (tu T 2 (upd (T 2) ((c * 5) + 3) x)) c v = upd (gT T c v) 0 x := by
  funext i
  match i with
  | 0 =>
    show upd (T 2) (c * 5 + 3) x (c * 5 + 3) = _
    rw [upd_eq, upd_eq]
  | 1 =>
    show upd (T 2) (c * 5 + 3) x (c * 5 + 4) = _
    rw [upd_ne (by omega), upd_ne (by omega)]
    rfl
  | 2 => rw [upd_ne (by omega)]; rfl
  | 3 => rw [upd_ne (by omega)]; rfl
  | q + 4 => rw [upd_ne (by omega)]; rfl
theorem W_jm {c v : Nat} {m : Int32} : ∀ (f j : Nat) (x : Int32) (T : Nat → Nat → Int32), HLv T v → (W_0workFor_6 c v m f j x T).1 = (jm (T 5 7) (T 5 8) (T 5 9) (T 2 (c * 5 + 1)) (lt T v) m f x (gT T c v)).1 ∧ gT (W_0workFor_6 c v m f j x T).2 c v = (jm (T 5 7) (T 5 8) (T 5 9) (T 2 (c * 5 + 1)) (lt T v) m f x (gT T c v)).2
  | 0, j, x, T, _ => ⟨rfl, rfl⟩
  | f + 1, j, x, T, h => by
    have hQ := nl_QI0 h
    have hn := gT_nl (c := c) h
    unfold W_0workFor_6 jm
    by_cases h1 : m ≤ x
    · rw [if_pos h1, if_pos h1]; exact ⟨rfl, rfl⟩
    · rw [if_neg h1, if_neg h1]
      cases hk : nlr (gT T c v) (lt T v) with
      | none =>
        rw [hk] at hn
        rw [hn, if_pos (show oI none = -1 from rfl)]
        exact ⟨rfl, rfl⟩
      | some k =>
        rw [hk] at hn
        have hk40 : k < 40 := by
          have := (nlr_ne1 hk).1
          have := h.2
          omega
        rw [hn, if_neg (show ¬ oI (some k) = -1 from nI_m1 (by omega))]
        have hc : (oI (some k)).toNatClampNeg = k := cl_nI (by omega)
        rw [hc]
        have eg : F_0isGentleEnough c v T = if T 2 (c * 5 + 1) < gT T c v 2 then nI 0 else nI 1 := rfl
        rw [eg]
        dsimp only
        by_cases h2 : T 2 (c * 5 + 1) < gT T c v 2
        · rw [if_pos h2, if_pos h2, if_pos (show nI 0 = (0 : Int32) from rfl)]
          exact ⟨rfl, rfl⟩
        · rw [if_neg h2, if_neg h2, if_neg (show ¬ nI 1 = (0 : Int32) by decide)]
          show (if (if nI 1 < T 5 7 + T 5 8 * gT T c v 2 - gT T c v 0 then T 5 7 + T 5 8 * gT T c v 2 - gT T c v 0 else nI 1) ≤ m - x then W_0workFor_6 c v m f (j + 1) (x + (if nI 1 < T 5 7 + T 5 8 * gT T c v 2 - gT T c v 0 then T 5 7 + T 5 8 * gT T c v 2 - gT T c v 0 else nI 1)) _ else _).1 = _ ∧ gT (if (if nI 1 < T 5 7 + T 5 8 * gT T c v 2 - gT T c v 0 then T 5 7 + T 5 8 * gT T c v 2 - gT T c v 0 else nI 1) ≤ m - x then W_0workFor_6 c v m f (j + 1) (x + (if nI 1 < T 5 7 + T 5 8 * gT T c v 2 - gT T c v 0 then T 5 7 + T 5 8 * gT T c v 2 - gT T c v 0 else nI 1)) _ else _).2 c v = _
          generalize (if nI 1 < T 5 7 + T 5 8 * gT T c v 2 - gT T c v 0 then T 5 7 + T 5 8 * gT T c v 2 - gT T c v 0 else nI 1) = q
          by_cases h3 : q ≤ m - x
          · rw [if_pos h3, if_pos h3]
            have hF : FR c v T (F_0scan_T v k (tu T 2 (upd (upd (T 2) ((c * 5) + 3) (nI (0))) ((c * 5) + 4) (((upd (T 2) ((c * 5) + 3) (nI (0))) ((c * 5) + 4)) + (nI (1)))))) := by
              refine FR.trans (FR_2 (fun i a b => ?_)) (FR_scan hk40)
              rw [upd_ne b, upd_ne a]
            have e5 := hF.1 5 (by omega) (by omega) (by omega)
            have e2 := hF.2.2.2 (c * 5 + 1) (by omega) (by omega)
            have e0 := hF.2.1 (v * 7 + 2) (by omega) (by omega)
            have el : lt (F_0scan_T v k (tu T 2 (upd (upd (T 2) ((c * 5) + 3) (nI (0))) ((c * 5) + 4) (((upd (T 2) ((c * 5) + 3) (nI (0))) ((c * 5) + 4)) + (nI (1)))))) v = lt T v := by unfold lt; rw [e0]
            have ih := W_jm (c := c) (v := v) (m := m) f (j + 1) (x + q) _ (HLv_of (T := T) (v := v) e0 h)
            rw [e5, e2, el, gT_scan hk40 rfl] at ih
            exact ih
          · rw [if_neg h3, if_neg h3]
            exact ⟨rfl, gT_work⟩
