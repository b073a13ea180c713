/-! THE LAW'S ARRAYS and the cells -/
theorem fi_of {p : Nat → Prop} [DecidablePred p] : ∀ {n i q : Nat}, i ≤ q → q < i + n → p q → (∀ j, i ≤ j → j < q → ¬ p j) → fi p n i = some q
  | 0, i, q, h1, h2, _, _ => absurd h2 (by omega)
  | n + 1, i, q, h1, h2, hp, hn => by
    unfold fi
    by_cases e : i = q
    · subst e; rw [if_pos hp]
    · rw [if_neg (hn i (Nat.le_refl _) (by omega))]
      exact fi_of (by omega) (by omega) hp (fun j a b => hn j (by omega) b)
theorem fi_no {p : Nat → Prop} [DecidablePred p] : ∀ {n i : Nat}, (∀ j, i ≤ j → j < i + n → ¬ p j) → fi p n i = none
  | 0, _, _ => rfl
  | n + 1, i, h => by
    unfold fi
    rw [if_neg (h i (Nat.le_refl _) (by omega))]
    exact fi_no (fun j a b => h j (by omega) (by omega))
theorem i_subR {a b c : Int32} (h : a - c = b - c) : a = b := by
  have h1 := congrArg (fun x => x + c) h
  simp only [Int32.sub_add_cancel] at h1
  exact h1
theorem i_subE {a b c : Int32} (h : a - c = b) : a = b + c := by
  rw [← h, Int32.sub_add_cancel]
/-- volumes, leaves, how often scanned, cradles and settings hold the cells z -/
def LC (V S N R st z : Nat → Int32) (nv nc : Nat) : Prop :=
  (∀ k, k < 4 → st k = z (7 + k)) ∧
  (∀ v w, v < 4 → w < 7 → w ≠ 5 → V (7 * v + w) = z (11 + 7 * v + w)) ∧ (∀ v, v < nv → V (7 * v + 5) = z (11 + 7 * v + 5) - nI 1) ∧
  (∀ v k, v < 4 → k < 8 → S (8 * v + k) = z (423 + 3 * (40 * v + k) + 0)) ∧ (∀ v k, v < 4 → k < 8 → N (8 * v + k) = z (423 + 3 * (40 * v + k) + 1)) ∧
  (∀ c w, c < 2 → w < 4 → R (4 * c + w) = z (95 + 4 * c + w)) ∧
  (∀ v, v < nv → lv z v ≤ 8) ∧ nv ≤ 4 ∧ nc ≤ 2
/-- no two volumes belong to one cradle -/
def PU (z : Nat → Int32) (nv : Nat) : Prop := ∀ v v', v < nv → v' < nv → z (11 + 7 * v + 5) = z (11 + 7 * v' + 5) → ¬ z (11 + 7 * v + 5) = nI 0 → v = v'
section REL
variable {V S N R st z : Nat → Int32} {nv nc nr ne : Nat}
theorem LC.se (h : LC V S N R st z nv nc) : ∀ k, k < 4 → st k = z (7 + k) := h.1
theorem LC.vol (h : LC V S N R st z nv nc) : ∀ v w, v < 4 → w < 7 → w ≠ 5 → V (7 * v + w) = z (11 + 7 * v + w) := h.2.1
theorem LC.pl (h : LC V S N R st z nv nc) : ∀ v, v < nv → V (7 * v + 5) = z (11 + 7 * v + 5) - nI 1 := h.2.2.1
theorem LC.lf (h : LC V S N R st z nv nc) : ∀ v k, v < 4 → k < 8 → S (8 * v + k) = z (423 + 3 * (40 * v + k) + 0) := h.2.2.2.1
theorem LC.ln (h : LC V S N R st z nv nc) : ∀ v k, v < 4 → k < 8 → N (8 * v + k) = z (423 + 3 * (40 * v + k) + 1) := h.2.2.2.2.1
theorem LC.cra (h : LC V S N R st z nv nc) : ∀ c w, c < 2 → w < 4 → R (4 * c + w) = z (95 + 4 * c + w) := h.2.2.2.2.2.1
theorem LC.l8 (h : LC V S N R st z nv nc) : ∀ v, v < nv → lv z v ≤ 8 := h.2.2.2.2.2.2.1
theorem LC.n4 (h : LC V S N R st z nv nc) : nv ≤ 4 := h.2.2.2.2.2.2.2.1
theorem LC.n2 (h : LC V S N R st z nv nc) : nc ≤ 2 := h.2.2.2.2.2.2.2.2
theorem lL_eq (h : LC V S N R st z nv nc) {v : Nat} (hv : v < 4) : lL V v = lv z v := by
  unfold lL lv
  rw [h.vol v 2 hv (by omega) (by omega)]
theorem LC.hL (h : LC V S N R st z nv nc) (hl : LV z nv) : ∀ v, v < nv → V (7 * v + 2) = nI (lL V v) ∧ lL V v ≤ 8 := by
  intro v hv
  have h4 := h.n4
  rw [lL_eq h (by omega), h.vol v 2 (by omega) (by omega) (by omega)]
  exact ⟨(hl v hv).1, h.l8 v hv⟩
theorem on_eq (h : LC V S N R st z nv nc) (hu : PU z nv) {k : Nat} (hk : k < 4) : onL V (nI k) nv = vo z (nI k) nv := by
  unfold onL
  cases hv : vo z (nI k) nv with
  | none =>
    refine fi_no fun j _ hj hp => ?_
    have hj : j < nv := by omega
    rw [h.pl j hj] at hp
    exact vo_no nv hv j hj hp
  | some v =>
    obtain ⟨h1, h2⟩ := vo_some hv
    refine fi_of (Nat.zero_le _) (by omega) (by rw [h.pl v h1]; exact h2) fun j _ hj hp => ?_
    rw [h.pl j (by omega)] at hp
    have e : z (11 + 7 * j + 5) = z (11 + 7 * v + 5) := i_subR (hp.trans h2.symm)
    have n0 : ¬ z (11 + 7 * j + 5) = nI 0 := by
      have := i_subE hp
      rw [nI_add] at this
      rw [this]
      exact fun q => by have := (nI_eq (by omega) (by omega)).mp q; omega
    have := hu j v (by omega) h1 e n0
    omega
theorem nx_eq (h : LC V S N R st z nv nc) {v : Nat} (hv : v < nv) : nxL V S v = nlO z v (lv z v) := by
  have h4 := h.n4
  have h8 := h.l8 v hv
  unfold nxL
  rw [lL_eq h (by omega)]
  exact nlB_congr fun j _ hj => h.lf v j (by omega) (by omega)
theorem onG_eq (h : LC V S N R st z nv nc) (hu : PU z nv) {k : Nat} (hk : k < 4) : onG V (nI k) nv = voG z (nI k) nv := by
  unfold onG voG
  rw [on_eq h hu hk]
theorem nxG_eq (h : LC V S N R st z nv nc) {v : Nat} (hv : v < nv) : nxG V S v = nlG z v (lv z v) := by
  unfold nxG nlG
  rw [nx_eq h hv]
theorem oI_0 {o : Option Nat} (hb : ∀ q, o = some q → q < 1000) : 0 ≤ oI o ↔ o ≠ none := by
  cases o with
  | none => exact ⟨fun h => absurd h (by decide), fun h => absurd rfl h⟩
  | some q => exact ⟨fun _ => Option.some_ne_none q, fun _ => nI_pos' (by have := hb q rfl; omega)⟩
theorem id_eq (h : LC V S N R st z nv nc) (hu : PU z nv) {k : Nat} (hk : k < nc) : F_Lidle k nv V S R = idZ z nv k := by
  have h4 := h.n4; have h2 := h.n2
  have he := on_eq h hu (k := k) (by omega)
  have hg := onG_eq h hu (k := k) (by omega)
  unfold F_Lidle idZ
  cases hv : vo z (nI k) nv with
  | none =>
    rw [he, hv]
    rw [if_neg (show ¬ 0 ≤ oI none from by decide)]
  | some v =>
    have h1 := vo_lt hv
    have ev : voG z (nI k) nv = v := by unfold voG; rw [hv]; rfl
    have hl8 := h.l8 v h1
    rw [he, hg, ev, hv, if_pos ((oI_0 (fun q hq => by cases hq; omega)).mpr (Option.some_ne_none v)), h.vol v 6 (by omega) (by omega) (by omega), h.vol v 3 (by omega) (by omega) (by omega), h.cra k 1 (by omega) (by omega), nx_eq h h1]
    dsimp only
    by_cases a : 0 < z (11 + 7 * v + 6)
    · rw [if_pos a, if_neg (Int32.not_le.mpr a)]
    · rw [if_neg a, if_pos (Int32.not_lt.mp a)]
      by_cases b : z (95 + 4 * k + 1) < z (11 + 7 * v + 3)
      · rw [if_pos b, if_neg (Int32.not_le.mpr b)]
      · rw [if_neg b, if_pos (Int32.not_lt.mp b)]
        by_cases c : nlO z v (lv z v) = none
        · rw [if_pos c, c, if_neg (show ¬ 0 ≤ oI none from by decide)]
        · rw [if_neg c, if_pos ((oI_0 (fun q hq => by have := nlB_some hq; omega)).mpr c)]
theorem abs_tab : ∀ p : Fin 20, ∀ q : Fin 20, F_Labs (nI p.val - nI q.val) = if nI q.val - nI p.val < 0 then -(nI q.val - nI p.val) else nI q.val - nI p.val := by decide +kernel
theorem abs_sym {p q : Nat} (hp : p ≤ 19) (hq : q ≤ 19) : F_Labs (nI p - nI q) = if nI q - nI p < 0 then -(nI q - nI p) else nI q - nI p := abs_tab ⟨p, by omega⟩ ⟨q, by omega⟩
theorem way_eq (h : LC V S N R st z nv nc) {A : Nat → Int32} {v r p q : Nat} (hv : v < 4) (hA : A (4 * r) = z (111 + 4 * r + 0)) (hp : p ≤ 19) (hq : q ≤ 19) (ep : z (11 + 7 * v + 0) = nI p) (eq : z (111 + 4 * r + 0) = nI q) : F_Lway v r V A st = wayZ z v r := by
  unfold F_Lway wayZ
  rw [h.se 3 (by omega), show V (7 * v) = z (11 + 7 * v + 0) from h.vol v 0 hv (by omega) (by omega), hA, ep, eq, abs_sym hp hq, Int32.add_comm]
end REL
