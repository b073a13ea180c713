/-! A VOLUME ON ITS WAY keeps the relation -/
theorem vo_congr2 {z z' : Nat → Int32} {x : Int32} : ∀ n : Nat, (∀ q, q < n → (z' (11 + 7 * q + 5) - nI 1 = x ↔ z (11 + 7 * q + 5) - nI 1 = x)) → vo z' x n = vo z x n
  | 0, _ => rfl
  | n + 1, h => by
    unfold vo
    rw [vo_congr2 n (fun q hq => h q (by omega))]
    by_cases e : z (11 + 7 * n + 5) - nI 1 = x
    · rw [if_pos e, if_pos ((h n (by omega)).mpr e)]
    · rw [if_neg e, if_neg (mt (h n (by omega)).mp e)]
theorem vo_eq {z : Nat → Int32} {x : Int32} {v : Nat} : ∀ n : Nat, v < n → z (11 + 7 * v + 5) - nI 1 = x → (∀ q, q < n → q ≠ v → ¬ z (11 + 7 * q + 5) - nI 1 = x) → vo z x n = some v
  | 0, h, _, _ => by omega
  | n + 1, h, e, ho => by
    unfold vo
    by_cases q : n = v
    · subst q
      rw [if_pos e]
    · rw [if_neg (ho n (by omega) q)]
      exact vo_eq n (by omega) e fun q hq => ho q (by omega)
theorem vo_no {z : Nat → Int32} {x : Int32} : ∀ n : Nat, vo z x n = none → ∀ q, q < n → ¬ z (11 + 7 * q + 5) - nI 1 = x
  | 0, _, q, hq => by omega
  | n + 1, h, q, hq => by
    unfold vo at h
    by_cases e : z (11 + 7 * n + 5) - nI 1 = x
    · rw [if_pos e] at h
      cases h
    · rw [if_neg e] at h
      by_cases p : q = n
      · rw [p]
        exact e
      · exact vo_no n h q (by omega)
section GO
variable {T : Nat → Nat → Int32} {z : Nat → Int32} {nv nc nr ne v r c : Nat} {P g W : Int32}
def zG (v r ne c : Nat) (P g W : Int32) (z : Nat → Int32) : Nat → Int32 := (upd (upd (upd (upd (upd (upd (upd (upd (upd (upd (upd (upd (upd z ((95 + (4 * c)) + 2) (nI (0))) ((11 + (7 * v)) + 5) P) ((11 + (7 * v)) + 6) W) ((111 + (4 * r)) + 0) (z (11 + 7 * v + 0))) ((111 + (4 * r)) + 1) W) ((111 + (4 * r)) + 2) ((z ((111 + (4 * r)) + 2)) + (nI (1)))) ((111 + (4 * r)) + 3) ((z ((111 + (4 * r)) + 3)) + W)) (123 + (5 * ne)) (z 3)) ((123 + (5 * ne)) + 1) (nI (r))) ((123 + (5 * ne)) + 2) (nI (v))) ((123 + (5 * ne)) + 3) g) ((123 + (5 * ne)) + 4) W) 5 (nI ((ne + 1))))
theorem goesA_g : F_5goesA_z v c r ne z = zG v r ne c (nI (c + 1)) (nI c) (wayZ z v r) z := rfl
theorem goesB_g : F_5goesB_z v r ne c z = zG v r ne c ((-1) + nI 1) (-1) (wayZ z v r) z := rfl
theorem zG_at (hv : v < 12) (hr : r < 3) (hc : c < 4) (he : ne < 60) : zG v r ne c P g W z 5 = nI (ne + 1) ∧ zG v r ne c P g W z (95 + 4 * c + 2) = nI 0 ∧ zG v r ne c P g W z (11 + 7 * v + 5) = P ∧ zG v r ne c P g W z (11 + 7 * v + 6) = W ∧ (zG v r ne c P g W z (111 + 4 * r + 0) = z (11 + 7 * v + 0) ∧ zG v r ne c P g W z (111 + 4 * r + 1) = W ∧ zG v r ne c P g W z (111 + 4 * r + 2) = z (111 + 4 * r + 2) + nI 1 ∧ zG v r ne c P g W z (111 + 4 * r + 3) = z (111 + 4 * r + 3) + W) ∧ (zG v r ne c P g W z (123 + 5 * ne + 0) = z 3 ∧ zG v r ne c P g W z (123 + 5 * ne + 1) = nI r ∧ zG v r ne c P g W z (123 + 5 * ne + 2) = nI v ∧ zG v r ne c P g W z (123 + 5 * ne + 3) = g ∧ zG v r ne c P g W z (123 + 5 * ne + 4) = W) ∧ ∀ i, i ≠ 5 → i ≠ 95 + 4 * c + 2 → i ≠ 11 + 7 * v + 5 → i ≠ 11 + 7 * v + 6 → (∀ k, k < 4 → i ≠ 111 + 4 * r + k) → (∀ k, k < 5 → i ≠ 123 + 5 * ne + k) → zG v r ne c P g W z i = z i := by
  unfold zG
  refine ⟨upd_eq, ?_, ?_, ?_, ⟨?_, ?_, ?_, ?_⟩, ⟨?_, ?_, ?_, ?_, ?_⟩, fun i h5 h1 h2 h3 h4 h6 => ?_⟩
  · repeat rw [upd_ne (by omega)]
    exact upd_eq
  · iterate 11 rw [upd_ne (by omega)]
    exact upd_eq
  · iterate 10 rw [upd_ne (by omega)]
    exact upd_eq
  · iterate 9 rw [upd_ne (by omega)]
    exact upd_eq
  · iterate 8 rw [upd_ne (by omega)]
    exact upd_eq
  · iterate 7 rw [upd_ne (by omega)]
    exact upd_eq
  · iterate 6 rw [upd_ne (by omega)]
    exact upd_eq
  · iterate 5 rw [upd_ne (by omega)]
    exact upd_eq
  · iterate 4 rw [upd_ne (by omega)]
    exact upd_eq
  · iterate 3 rw [upd_ne (by omega)]
    exact upd_eq
  · iterate 2 rw [upd_ne (by omega)]
    exact upd_eq
  · rw [upd_ne (by omega)]
    exact upd_eq
  · have a0 := h4 0 (by omega)
    have a1 := h4 1 (by omega)
    have a2 := h4 2 (by omega)
    have a3 := h4 3 (by omega)
    have b0 := h6 0 (by omega)
    have b1 := h6 1 (by omega)
    have b2 := h6 2 (by omega)
    have b3 := h6 3 (by omega)
    have b4 := h6 4 (by omega)
    iterate 13 rw [upd_ne (by omega)]
theorem tG_at {pT hT : Int32} (hr : r < 3) (hW : (T 5) 10 * (if 0 ≤ (T 3) (r * 4 + 0) - (T 0) (v * 7 + 0) then (T 3) (r * 4 + 0) - (T 0) (v * 7 + 0) else 0 - ((T 3) (r * 4 + 0) - (T 0) (v * 7 + 0))) + nI 1 = W) :
    F_0startWay v r (tu (tu T 0 (upd (T 0) ((v * 7) + 5) pT)) 2 (upd (upd (T 2) ((c * 5) + 2) hT) ((c * 5) + 3) (nI (0)))) = W ∧
    F_0startWay_T v g r ne (tu (tu T 0 (upd (T 0) ((v * 7) + 5) pT)) 2 (upd (upd (T 2) ((c * 5) + 2) hT) ((c * 5) + 3) (nI (0)))) 0 = upd (upd (T 0) (v * 7 + 5) pT) (v * 7 + 6) W ∧
    F_0startWay_T v g r ne (tu (tu T 0 (upd (T 0) ((v * 7) + 5) pT)) 2 (upd (upd (T 2) ((c * 5) + 2) hT) ((c * 5) + 3) (nI (0)))) 1 = T 1 ∧
    F_0startWay_T v g r ne (tu (tu T 0 (upd (T 0) ((v * 7) + 5) pT)) 2 (upd (upd (T 2) ((c * 5) + 2) hT) ((c * 5) + 3) (nI (0)))) 2 = upd (upd (T 2) ((c * 5) + 2) hT) ((c * 5) + 3) (nI (0)) ∧
    F_0startWay_T v g r ne (tu (tu T 0 (upd (T 0) ((v * 7) + 5) pT)) 2 (upd (upd (T 2) ((c * 5) + 2) hT) ((c * 5) + 3) (nI (0)))) 3 = upd (upd (upd (upd (T 3) ((r * 4) + 0) (T 0 (v * 7 + 0))) ((r * 4) + 1) W) ((r * 4) + 2) (T 3 (r * 4 + 2) + nI 1)) ((r * 4) + 3) (T 3 (r * 4 + 3) + W) ∧
    F_0startWay_T v g r ne (tu (tu T 0 (upd (T 0) ((v * 7) + 5) pT)) 2 (upd (upd (T 2) ((c * 5) + 2) hT) ((c * 5) + 3) (nI (0)))) 4 = upd (upd (upd (upd (upd (T 4) ((ne * 5) + 0) ((T 5) 3)) ((ne * 5) + 1) (nI (r))) ((ne * 5) + 2) (nI (v))) ((ne * 5) + 3) g) ((ne * 5) + 4) W ∧
    F_0startWay_T v g r ne (tu (tu T 0 (upd (T 0) ((v * 7) + 5) pT)) 2 (upd (upd (T 2) ((c * 5) + 2) hT) ((c * 5) + 3) (nI (0)))) 5 = upd (T 5) 5 (((T 5) 5) + (nI (1))) := by
  have e0 : (tu (tu T 0 (upd (T 0) ((v * 7) + 5) pT)) 2 (upd (upd (T 2) ((c * 5) + 2) hT) ((c * 5) + 3) (nI (0)))) 0 = upd (T 0) ((v * 7) + 5) pT := rfl
  have e1 : (tu (tu T 0 (upd (T 0) ((v * 7) + 5) pT)) 2 (upd (upd (T 2) ((c * 5) + 2) hT) ((c * 5) + 3) (nI (0)))) 1 = T 1 := rfl
  have e2 : (tu (tu T 0 (upd (T 0) ((v * 7) + 5) pT)) 2 (upd (upd (T 2) ((c * 5) + 2) hT) ((c * 5) + 3) (nI (0)))) 2 = upd (upd (T 2) ((c * 5) + 2) hT) ((c * 5) + 3) (nI (0)) := rfl
  have e3 : (tu (tu T 0 (upd (T 0) ((v * 7) + 5) pT)) 2 (upd (upd (T 2) ((c * 5) + 2) hT) ((c * 5) + 3) (nI (0)))) 3 = T 3 := rfl
  have e4 : (tu (tu T 0 (upd (T 0) ((v * 7) + 5) pT)) 2 (upd (upd (T 2) ((c * 5) + 2) hT) ((c * 5) + 3) (nI (0)))) 4 = T 4 := rfl
  have e5 : (tu (tu T 0 (upd (T 0) ((v * 7) + 5) pT)) 2 (upd (upd (T 2) ((c * 5) + 2) hT) ((c * 5) + 3) (nI (0)))) 5 = T 5 := rfl
  generalize (tu (tu T 0 (upd (T 0) ((v * 7) + 5) pT)) 2 (upd (upd (T 2) ((c * 5) + 2) hT) ((c * 5) + 3) (nI (0)))) = Y at *
  have ep : Y 0 (v * 7 + 0) = T 0 (v * 7 + 0) := by rw [e0, upd_ne (by omega)]
  have eW : (Y 5) 10 * (if 0 ≤ (Y 3) (r * 4 + 0) - (Y 0) (v * 7 + 0) then (Y 3) (r * 4 + 0) - (Y 0) (v * 7 + 0) else 0 - ((Y 3) (r * 4 + 0) - (Y 0) (v * 7 + 0))) + nI 1 = W := by rw [e5, e3, ep]; exact hW
  unfold F_0startWay F_0startWay_T
  rw [eW, ep]
  refine ⟨rfl, ?_, ?_, ?_, ?_, ?_, ?_⟩
  · rw [tu_ne (by decide), tu_ne (by decide), tu_ne (by decide), tu_eq, e0]
  · rw [tu_ne (by decide), tu_ne (by decide), tu_ne (by decide), tu_ne (by decide), e1]
  · rw [tu_ne (by decide), tu_ne (by decide), tu_ne (by decide), tu_ne (by decide), e2]
  · rw [tu_ne (by decide), tu_ne (by decide), tu_eq, e3]
    have f2 : upd (upd (T 3) (r * 4 + 0) (T 0 (v * 7 + 0))) (r * 4 + 1) W (r * 4 + 2) = T 3 (r * 4 + 2) := by rw [upd_ne (by omega), upd_ne (by omega)]
    rw [f2]
    have f3 : upd (upd (upd (T 3) (r * 4 + 0) (T 0 (v * 7 + 0))) (r * 4 + 1) W) (r * 4 + 2) (T 3 (r * 4 + 2) + nI 1) (r * 4 + 3) = T 3 (r * 4 + 3) := by rw [upd_ne (by omega), upd_ne (by omega), upd_ne (by omega)]
    rw [f3]
  · rw [tu_ne (by decide), tu_eq, e4, e5]
  · rw [tu_eq, e5]
end GO
