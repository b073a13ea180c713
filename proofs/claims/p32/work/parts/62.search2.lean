section SE2
variable {g : Nat → Nat → Option Nat} {ga : Nat → Int32}
/-- one cradle more -/
theorem rl_inv (hga : ∀ c v, c < 4 → v < 12 → ga (12 * c + v) = oI (g c v)) (hb : ∀ c v k, g c v = some k → k ≤ 40) {n : Nat} (hn : n < 4) {rs : SG → SG} (hR : RSP g ga n rs) {pi be : Nat → Int32} {bm : Int32} {U : Nat → Bool} {s : Nat} (hU : ∀ v, v < 12 → U v = usd pi (3 - n) v) (hs : L_5keepPicks_4 ga pi (3 - n) = nI s) : ∀ j : Nat, j ≤ 12 →
    (∀ c, c < 3 - n → (rl ga (3 - n) rs (upd pi (3 - n) (-2), be, bm) j).1 c = pi c) ∧ bm ≤ (rl ga (3 - n) rs (upd pi (3 - n) (-2), be, bm) j).2.2 ∧ (∀ x, reach g n U s x → nI x ≤ (rl ga (3 - n) rs (upd pi (3 - n) (-2), be, bm) j).2.2) ∧ (∀ v k x, v < j → g (3 - n) v = some k → U v = false → reach g n (addU U v) (s + k) x → nI x ≤ (rl ga (3 - n) rs (upd pi (3 - n) (-2), be, bm) j).2.2) ∧ ((∀ x, reach g (n + 1) U s x → nI x ≤ bm) → (∀ k, k < 4 → (rl ga (3 - n) rs (upd pi (3 - n) (-2), be, bm) j).2.1 k = be k) ∧ (rl ga (3 - n) rs (upd pi (3 - n) (-2), be, bm) j).2.2 = bm)
  | 0, _ => by
    have e4 : 4 - n = (3 - n) + 1 := by omega
    have hm1 : ∀ v, v < 12 → U v = usd (upd pi (3 - n) (-1)) (4 - n) v := fun v hv => by
      rw [e4, ← usd_up (p := pi) (U := U) (v := v) (fun _ _ => rfl) (hU v hv), decide_eq_false (fun e => nI_m1 (q := v) (by omega) e.symm), Bool.or_false]
    have hk1 : L_5keepPicks_4 ga (upd pi (3 - n) (-1)) (4 - n) = nI s := by
      rw [e4, kp_up (p := pi) (pi := pi) (fun _ _ => rfl), if_pos rfl, hs, i_a0]
    obtain ⟨r1, r2, r3, r4⟩ := hR (upd pi (3 - n) (-1)) be bm U s hm1 hk1
    rw [rl_0]
    exact ⟨fun c hc => by rw [r1 c (by omega), upd_ne (by omega)], r2, r3, fun v k x hv => by omega, fun h => r4 fun x hx => h x (Or.inl hx)⟩
  | j + 1, hj => by
    obtain ⟨i1, i2, i3, i4, i5⟩ := rl_inv hga hb hn hR hU hs j (by omega)
    have e4 : 4 - n = (3 - n) + 1 := by omega
    rw [rl_s (show j < 12 by omega)]
    generalize rl ga (3 - n) rs (upd pi (3 - n) (-2), be, bm) j = X at i1 i2 i3 i4 i5
    have hcan := can_v hga hb (D := 3 - n) (v := j) (by omega) (by omega) X.1
    have hus : usd X.1 (3 - n) j = U j := by rw [hU j (by omega)]; exact usd_congr _ i1
    rw [hus] at hcan
    by_cases q : F_5canPick (3 - n) ga (upd X.1 (3 - n) (nI j)) = 0
    · rw [if_pos q]
      refine ⟨fun c hc => ?_, i2, i3, fun v k x hv hg hu hx => ?_, i5⟩
      · show upd _ _ _ _ = _
        rw [upd_ne (by omega), i1 c hc]
      · by_cases e : v = j
        · subst e
          rcases hcan.mp q with q | q
          · rw [hg] at q
            cases q
          · rw [hu] at q
            cases q
        · exact i4 v k x (by omega) hg hu hx
    · rw [if_neg q]
      cases hg : g (3 - n) j with
      | none => exact absurd (hcan.mpr (Or.inl hg)) q
      | some k =>
        have hu : U j = false := by
          cases hu : U j with
          | false => rfl
          | true => exact absurd (hcan.mpr (Or.inr hu)) q
        have hm1 : ∀ v, v < 12 → addU U j v = usd (upd X.1 (3 - n) (nI j)) (4 - n) v := fun v hv => by
          rw [e4, ← usd_up (p := X.1) (U := U) (v := v) i1 (hU v hv)]
          unfold addU
          congr 1
          by_cases e : v = j
          · rw [decide_eq_true e, decide_eq_true (by rw [e])]
          · rw [decide_eq_false e, decide_eq_false (fun p => e ((nI_eq (by omega) (by omega)).mp p).symm)]
        have hk1 : L_5keepPicks_4 ga (upd X.1 (3 - n) (nI j)) (4 - n) = nI (s + k) := by
          rw [e4, kp_up i1, if_neg (nI_m1 (by omega)), cl_nI (by omega), hga _ _ (by omega) (by omega), hg, hs]
          exact nI_add s k
        obtain ⟨r1, r2, r3, r4⟩ := hR (upd X.1 (3 - n) (nI j)) X.2.1 X.2.2 (addU U j) (s + k) hm1 hk1
        refine ⟨fun c hc => ?_, Int32.le_trans i2 r2, fun x hx => Int32.le_trans (i3 x hx) r2, fun v k' x hv hg' hu' hx => ?_, fun h => ?_⟩
        · refine (r1 c (by omega)).trans ?_
          rw [upd_ne (by omega), i1 c hc]
        · by_cases e : v = j
          · subst e
            rw [hg] at hg'
            cases hg'
            exact r3 x hx
          · exact Int32.le_trans (i4 v k' x (by omega) hg' hu' hx) r2
        · obtain ⟨i6, i7⟩ := i5 h
          obtain ⟨r6, r7⟩ := r4 fun x hx => by
            rw [i7]
            exact h x (Or.inr ⟨j, k, by omega, hg, hu, hx⟩)
          exact ⟨fun w hw => (r6 w hw).trans (i6 w hw), r7.trans i7⟩
theorem RSP_s (hga : ∀ c v, c < 4 → v < 12 → ga (12 * c + v) = oI (g c v)) (hb : ∀ c v k, g c v = some k → k ≤ 40) {n : Nat} (hn : n < 4) {rs : SG → SG} (hR : RSP g ga n rs) : RSP g ga (n + 1) (fun S => dv ga (3 - n) rs 13 (upd S.1 (3 - n) (-2), S.2)) := by
  intro pi be bm U s hU hs
  rw [show 4 - (n + 1) = 3 - n by omega] at hU hs
  obtain ⟨i1, i2, i3, i4, i5⟩ := rl_inv (be := be) (bm := bm) hga hb hn hR hU hs 12 (Nat.le_refl _)
  show (∀ c, c < 4 - (n + 1) → (dv ga (3 - n) rs 13 (upd pi (3 - n) (-2), be, bm)).1 c = pi c) ∧ bm ≤ (dv ga (3 - n) rs 13 (upd pi (3 - n) (-2), be, bm)).2.2 ∧ (∀ x, reach g (n + 1) U s x → nI x ≤ (dv ga (3 - n) rs 13 (upd pi (3 - n) (-2), be, bm)).2.2) ∧ ((∀ x, reach g (n + 1) U s x → nI x ≤ bm) → (∀ k, k < 4 → (dv ga (3 - n) rs 13 (upd pi (3 - n) (-2), be, bm)).2.1 k = be k) ∧ (dv ga (3 - n) rs 13 (upd pi (3 - n) (-2), be, bm)).2.2 = bm)
  rw [dv_12]
  refine ⟨fun c hc => i1 c (by omega), i2, fun x hx => ?_, i5⟩
  rcases hx with hx | ⟨v, k, h1, h2, h3, h4⟩
  · exact i3 x hx
  · exact i4 v k x h1 h2 h3 h4
/-! the class's search -/
abbrev CFN : Type := Int32 → Int32 → (Nat → Int32) → Int32 → (Nat → Int32) × Int32
def gB (D : Nat) (cf : CFN) (u s : Int32) (pg : Nat → Int32) (j : Nat) (y : (Nat → Int32) × Int32) : (Nat → Int32) × Int32 := if (pg (D * 12 + j)) ≤ 0 then y else if (u &&& ((nI (1)) <<< ((nI (j)) &&& 31))) = 0 then cf (u ||| ((nI (1)) <<< ((nI (j)) &&& 31))) (s + (pg (D * 12 + j))) (upd y.1 ((0 * 4) + D) (nI (j))) y.2 else y
def gL (D : Nat) (cf : CFN) (u s : Int32) (pg pc : Nat → Int32) (pm : Int32) : Nat → (Nat → Int32) × Int32
  | 0 => cf u s (upd pc ((0 * 4) + D) (-1)) pm
  | j + 1 => gB D cf u s pg j (gL D cf u s pg pc pm j)
def gF (D : Nat) (cf : CFN) (pg ph : Nat → Int32) : CFN := fun u s pc pm => if pm < (s + (ph D)) then gL D cf u s pg pc pm 12 else (pc, pm)
def f4 : CFN := fun _ s pc pm => (F_2fill4_pc s pc pm, F_2fill4_pm s pm)
theorem L3_g (u s : Int32) (pg pc : Nat → Int32) (pm : Int32) : ∀ j : Nat, L_2fill3_52 u s pg pc pm j = gL 3 f4 u s pg pc pm j
  | 0 => rfl
  | j + 1 => by
    show B_2fill3_52 u s pg j (L_2fill3_52 u s pg pc pm j).1 (L_2fill3_52 u s pg pc pm j).2 = gB 3 f4 u s pg j (gL 3 f4 u s pg pc pm j)
    rw [L3_g u s pg pc pm j]
    rfl
theorem F3_g (u s : Int32) (pg ph pc : Nat → Int32) (pm : Int32) : (F_2fill3_pc u s pg ph pc pm, F_2fill3_pm u s pg ph pc pm) = gF 3 f4 pg ph u s pc pm := by
  unfold F_2fill3_pc F_2fill3_pm gF
  rw [L3_g]
  split <;> rfl
theorem L2_g (u s : Int32) (pg ph pc : Nat → Int32) (pm : Int32) : ∀ j : Nat, L_2fill2_52 u s pg ph pc pm j = gL 2 (gF 3 f4 pg ph) u s pg pc pm j
  | 0 => F3_g _ _ _ _ _ _
  | j + 1 => by
    show B_2fill2_52 u s pg ph j (L_2fill2_52 u s pg ph pc pm j).1 (L_2fill2_52 u s pg ph pc pm j).2 = gB 2 (gF 3 f4 pg ph) u s pg j (gL 2 (gF 3 f4 pg ph) u s pg pc pm j)
    rw [L2_g u s pg ph pc pm j]
    unfold B_2fill2_52 gB
    rw [F3_g]
theorem F2_g (u s : Int32) (pg ph pc : Nat → Int32) (pm : Int32) : (F_2fill2_pc u s pg ph pc pm, F_2fill2_pm u s pg ph pc pm) = gF 2 (gF 3 f4 pg ph) pg ph u s pc pm := by
  unfold F_2fill2_pc F_2fill2_pm
  rw [L2_g]
  unfold gF
  split <;> rfl
theorem L1_g (u s : Int32) (pg ph pc : Nat → Int32) (pm : Int32) : ∀ j : Nat, L_2fill1_52 u s pg ph pc pm j = gL 1 (gF 2 (gF 3 f4 pg ph) pg ph) u s pg pc pm j
  | 0 => F2_g _ _ _ _ _ _
  | j + 1 => by
    show B_2fill1_52 u s pg ph j (L_2fill1_52 u s pg ph pc pm j).1 (L_2fill1_52 u s pg ph pc pm j).2 = gB 1 (gF 2 (gF 3 f4 pg ph) pg ph) u s pg j (gL 1 (gF 2 (gF 3 f4 pg ph) pg ph) u s pg pc pm j)
    rw [L1_g u s pg ph pc pm j]
    unfold B_2fill1_52 gB
    rw [F2_g]
theorem F1_g (u s : Int32) (pg ph pc : Nat → Int32) (pm : Int32) : (F_2fill1_pc u s pg ph pc pm, F_2fill1_pm u s pg ph pc pm) = gF 1 (gF 2 (gF 3 f4 pg ph) pg ph) pg ph u s pc pm := by
  unfold F_2fill1_pc F_2fill1_pm
  rw [L1_g]
  unfold gF
  split <;> rfl
theorem L0_g (u s : Int32) (pg ph pc : Nat → Int32) (pm : Int32) : ∀ j : Nat, L_2fill0_52 u s pg ph pc pm j = gL 0 (gF 1 (gF 2 (gF 3 f4 pg ph) pg ph) pg ph) u s pg pc pm j
  | 0 => F1_g _ _ _ _ _ _
  | j + 1 => by
    show B_2fill0_52 u s pg ph j (L_2fill0_52 u s pg ph pc pm j).1 (L_2fill0_52 u s pg ph pc pm j).2 = gB 0 (gF 1 (gF 2 (gF 3 f4 pg ph) pg ph) pg ph) u s pg j (gL 0 (gF 1 (gF 2 (gF 3 f4 pg ph) pg ph) pg ph) u s pg pc pm j)
    rw [L0_g u s pg ph pc pm j]
    unfold B_2fill0_52 gB
    rw [F1_g]
theorem F0_g (u s : Int32) (pg ph pc : Nat → Int32) (pm : Int32) : (F_2fill0_pc u s pg ph pc pm, F_2fill0_pm u s pg ph pc pm) = gF 0 (gF 1 (gF 2 (gF 3 f4 pg ph) pg ph) pg ph) pg ph u s pc pm := by
  unfold F_2fill0_pc F_2fill0_pm
  rw [L0_g]
  unfold gF
  split <;> rfl
end SE2
