/-! THE SEARCH for the best load -/
def addU (U : Nat → Bool) (v : Nat) : Nat → Bool := fun x => U x || decide (x = v)
/-- the sums that the last n cradles can still lead to -/
def reach (g : Nat → Nat → Option Nat) : Nat → (Nat → Bool) → Nat → Nat → Prop
  | 0, _, s, x => x = s
  | n + 1, U, s, x => reach g n U s x ∨ ∃ v k, v < 12 ∧ g (3 - n) v = some k ∧ U v = false ∧ reach g n (addU U v) (s + k) x
theorem reach_mono {g : Nat → Nat → Option Nat} : ∀ (n : Nat) (U U' : Nat → Bool) (s x : Nat), (∀ v, U v = false → U' v = false) → reach g n U s x → reach g n U' s x
  | 0, U, U', s, x, _, h => h
  | n + 1, U, U', s, x, hU, h => by
    rcases h with h | ⟨v, k, h1, h2, h3, h4⟩
    · exact Or.inl (reach_mono n U U' s x hU h)
    · refine Or.inr ⟨v, k, h1, h2, hU v h3, reach_mono n _ _ _ _ (fun y hy => ?_) h4⟩
      unfold addU at *
      rw [Bool.or_eq_false_iff] at *
      exact ⟨hU y hy.1, hy.2⟩
theorem reach_hope {g : Nat → Nat → Option Nat} : ∀ (n : Nat) (U : Nat → Bool) (s x : Nat), reach g n U s x → x ≤ s + hpS (fun c v => (g c v).getD 0) n
  | 0, U, s, x, h => by
    have : x = s := h
    omega
  | n + 1, U, s, x, h => by
    show x ≤ s + (hpS (fun c v => (g c v).getD 0) n + mxv (fun v => (g (3 - n) v).getD 0) 12)
    rcases h with h | ⟨v, k, h1, h2, h3, h4⟩
    · have := reach_hope n U s x h
      omega
    · have := reach_hope n _ _ x h4
      have h5 := le_mxv (f := fun v => (g (3 - n) v).getD 0) h1
      rw [h2] at h5
      have h6 : k ≤ mxv (fun v => (g (3 - n) v).getD 0) 12 := h5
      omega
theorem hpS_le {f : Nat → Nat → Nat} (h : ∀ c v, f c v ≤ 40) : ∀ n : Nat, hpS f n ≤ 40 * n
  | 0 => Nat.le_refl _
  | n + 1 => by
    have := hpS_le h n
    have := mxv_le (h (3 - n)) 12
    unfold hpS
    omega
/-- taken by the picks before D -/
def usd (p : Nat → Int32) : Nat → Nat → Bool
  | 0, _ => false
  | D + 1, v => usd p D v || decide (p D = nI v)
theorem usd_congr {p p' : Nat → Int32} {v : Nat} : ∀ D : Nat, (∀ c, c < D → p' c = p c) → usd p' D v = usd p D v
  | 0, _ => rfl
  | D + 1, h => by
    unfold usd
    rw [usd_congr D (fun c hc => h c (by omega)), h D (by omega)]
theorem kp_congr {ga p p' : Nat → Int32} : ∀ D : Nat, (∀ c, c < D → p' c = p c) → L_5keepPicks_4 ga p' D = L_5keepPicks_4 ga p D
  | 0, _ => rfl
  | D + 1, h => by
    show B_5keepPicks_4 ga p' D (L_5keepPicks_4 ga p' D) = B_5keepPicks_4 ga p D (L_5keepPicks_4 ga p D)
    unfold B_5keepPicks_4
    rw [kp_congr D (fun c hc => h c (by omega)), h D (by omega)]
theorem cp_0 {c : Nat} {p : Nat → Int32} : ∀ j : Nat, L_5canPick_38 c p (nI 0) j = nI 0
  | 0 => rfl
  | j + 1 => by
    show B_5canPick_38 c p j (L_5canPick_38 c p (nI 0) j) = _
    unfold B_5canPick_38
    rw [cp_0 j, if_pos (show nI 0 = (0 : Int32) from rfl)]
theorem cp_none {c : Nat} {p : Nat → Int32} (h : p c = -1) : ∀ j : Nat, L_5canPick_38 c p (nI 1) j = nI 1
  | 0 => rfl
  | j + 1 => by
    show B_5canPick_38 c p j (L_5canPick_38 c p (nI 1) j) = _
    unfold B_5canPick_38
    rw [cp_none h j, if_neg (show ¬ nI 1 = (0 : Int32) by decide), if_pos h]
theorem cp_v {c v : Nat} {p : Nat → Int32} (hv : v < 12) (h : p c = nI v) : ∀ j : Nat, L_5canPick_38 c p (nI 1) j = if usd p j v = true then nI 0 else nI 1
  | 0 => rfl
  | j + 1 => by
    show B_5canPick_38 c p j (L_5canPick_38 c p (nI 1) j) = _
    unfold B_5canPick_38 usd
    rw [cp_v hv h j, if_neg (show ¬ p c = -1 by rw [h]; exact nI_m1 (by omega)), h]
    cases hu : usd p j v with
    | true => rw [if_pos rfl, if_pos (show nI 0 = (0 : Int32) from rfl), Bool.true_or, if_pos rfl]
    | false =>
      rw [if_neg (show ¬ false = true by decide), if_neg (show ¬ nI 1 = (0 : Int32) by decide), Bool.false_or]
      by_cases q : p j = nI v
      · rw [if_pos q, if_pos (decide_eq_true q)]
      · rw [if_neg q, if_neg (fun e => q (of_decide_eq_true e))]
section SEA
variable {g : Nat → Nat → Option Nat} {ga : Nat → Int32}
theorem can_none (D : Nat) (p : Nat → Int32) : ¬ F_5canPick D ga (upd p D (-1)) = 0 := by
  unfold F_5canPick
  rw [if_pos upd_eq, cp_none upd_eq]
  decide
theorem can_v (hga : ∀ c v, c < 4 → v < 12 → ga (12 * c + v) = oI (g c v)) (hb : ∀ c v k, g c v = some k → k ≤ 40) {D v : Nat} (hD : D < 4) (hv : v < 12) (p : Nat → Int32) : F_5canPick D ga (upd p D (nI v)) = 0 ↔ g D v = none ∨ usd p D v = true := by
  unfold F_5canPick
  rw [if_neg (show ¬ upd p D (nI v) D = -1 by rw [upd_eq]; exact nI_m1 (by omega)), upd_eq, cl_nI (by omega), hga D v hD hv, cp_0, cp_v hv upd_eq, usd_congr (p := p) D (fun c hc => upd_ne (by omega))]
  cases e : g D v with
  | none =>
    rw [if_pos (show oI none = -1 from rfl)]
    exact ⟨fun _ => Or.inl rfl, fun _ => rfl⟩
  | some k =>
    rw [if_neg (show ¬ oI (some k) = -1 from nI_m1 (by have := hb D v k e; omega))]
    cases hu : usd p D v with
    | true => exact ⟨fun _ => Or.inr rfl, fun _ => rfl⟩
    | false =>
      rw [if_neg (show ¬ false = true by decide)]
      exact ⟨fun q => absurd q (by decide), fun q => by rcases q with q | q <;> cases q⟩
/-- the reference's search over the last n cradles -/
def RSP (g : Nat → Nat → Option Nat) (ga : Nat → Int32) (n : Nat) (rs : SG → SG) : Prop := ∀ (pi be : Nat → Int32) (bm : Int32) (U : Nat → Bool) (s : Nat), (∀ v, v < 12 → U v = usd pi (4 - n) v) → L_5keepPicks_4 ga pi (4 - n) = nI s →
  (∀ c, c < 4 - n → (rs (pi, be, bm)).1 c = pi c) ∧ bm ≤ (rs (pi, be, bm)).2.2 ∧ (∀ x, reach g n U s x → nI x ≤ (rs (pi, be, bm)).2.2) ∧ ((∀ x, reach g n U s x → nI x ≤ bm) → (∀ k, k < 4 → (rs (pi, be, bm)).2.1 k = be k) ∧ (rs (pi, be, bm)).2.2 = bm)
theorem kpW (pi be : Nat → Int32) (bm : Int32) : F_5keepPicks_bm ga pi be bm = (if L_5keepPicks_4 ga pi 4 ≤ bm then bm else L_5keepPicks_4 ga pi 4) ∧ ∀ k, k < 4 → F_5keepPicks_be ga pi be bm k = if L_5keepPicks_4 ga pi 4 ≤ bm then be k else pi k := by
  unfold F_5keepPicks_bm F_5keepPicks_be
  by_cases h : L_5keepPicks_4 ga pi 4 ≤ bm
  · simp only [W_5keepPicks_50, if_pos h]
    exact ⟨trivial, fun _ _ => trivial⟩
  · simp only [W_5keepPicks_50, if_neg h]
    refine ⟨trivial, fun k hk => ?_⟩
    obtain rfl | rfl | rfl | rfl : k = 0 ∨ k = 1 ∨ k = 2 ∨ k = 3 := by omega
    · rfl
    · rfl
    · rfl
    · rfl
theorem RSP_0 : RSP g ga 0 (sub3 ga) := by
  intro pi be bm U s hU hs
  obtain ⟨k1, k2⟩ := kpW (ga := ga) pi be bm
  have hs' : L_5keepPicks_4 ga pi 4 = nI s := hs
  rw [hs'] at k1 k2
  show (∀ c, c < 4 → pi c = pi c) ∧ bm ≤ F_5keepPicks_bm ga pi be bm ∧ (∀ x, x = s → nI x ≤ F_5keepPicks_bm ga pi be bm) ∧ ((∀ x, x = s → nI x ≤ bm) → (∀ k, k < 4 → F_5keepPicks_be ga pi be bm k = be k) ∧ F_5keepPicks_bm ga pi be bm = bm)
  rw [k1]
  refine ⟨fun _ _ => rfl, ?_, fun x hx => ?_, fun h => ?_⟩
  · by_cases q : nI s ≤ bm
    · rw [if_pos q]
      exact Int32.le_refl _
    · rw [if_neg q]
      exact Int32.le_of_lt (Int32.not_le.mp q)
  · rw [hx]
    by_cases q : nI s ≤ bm
    · rw [if_pos q]
      exact q
    · rw [if_neg q]
      exact Int32.le_refl _
  · have q := h s rfl
    rw [if_pos q]
    exact ⟨fun k hk => by rw [k2 k hk, if_pos q], rfl⟩
/-- after NONE and the first j volumes -/
def rl (ga : Nat → Int32) (D : Nat) (rs : SG → SG) (S : SG) : Nat → SG
  | 0 => dst ga D rs 12 S
  | j + 1 => dst ga D rs (11 - j) (rl ga D rs S j)
theorem dv_rl {D : Nat} {rs : SG → SG} {S : SG} : ∀ j : Nat, j ≤ 12 → dv ga D rs (12 - j) (rl ga D rs S j) = dv ga D rs 13 S
  | 0, _ => rfl
  | j + 1, h => by
    rw [← dv_rl j (by omega), show 12 - j = (11 - j) + 1 by omega, show 12 - (j + 1) = 11 - j by omega]
    rfl
theorem dv_12 {D : Nat} {rs : SG → SG} {S : SG} : dv ga D rs 13 S = rl ga D rs S 12 := (dv_rl 12 (by omega)).symm
theorem rl_0 {D : Nat} {rs : SG → SG} {pi be : Nat → Int32} {bm : Int32} : rl ga D rs (upd pi D (-2), be, bm) 0 = rs (upd pi D (-1), be, bm) := by
  show dst ga D rs 12 _ = _
  unfold dst
  have e : nI 11 - nI 12 = (-1 : Int32) := by decide
  rw [e, upd_upd, if_neg (can_none D pi)]
theorem rl_s {D j : Nat} {rs : SG → SG} {S : SG} (hj : j < 12) : rl ga D rs S (j + 1) = if F_5canPick D ga (upd (rl ga D rs S j).1 D (nI j)) = 0 then (upd (rl ga D rs S j).1 D (nI j), (rl ga D rs S j).2) else rs (upd (rl ga D rs S j).1 D (nI j), (rl ga D rs S j).2) := by
  show dst ga D rs (11 - j) _ = _
  unfold dst
  rw [pk_sub (show 11 - j ≤ 11 by omega), show 11 - (11 - j) = j by omega]
theorem usd_up {p pi : Nat → Int32} {U : Nat → Bool} {D v : Nat} {x : Int32} (h : ∀ c, c < D → p c = pi c) (hU : U v = usd pi D v) : (U v || decide (x = nI v)) = usd (upd p D x) (D + 1) v := by
  unfold usd
  rw [upd_eq, hU, usd_congr (p := pi) (p' := upd p D x) D fun c hc => by rw [upd_ne (by omega), h c hc]]
theorem kp_up {p pi : Nat → Int32} {D : Nat} {x : Int32} (h : ∀ c, c < D → p c = pi c) : L_5keepPicks_4 ga (upd p D x) (D + 1) = if x = -1 then L_5keepPicks_4 ga pi D + nI 0 else L_5keepPicks_4 ga pi D + ga ((12 * D) + x.toNatClampNeg) := by
  show B_5keepPicks_4 ga (upd p D x) D (L_5keepPicks_4 ga (upd p D x) D) = _
  unfold B_5keepPicks_4
  rw [upd_eq, kp_congr (p := pi) (p' := upd p D x) D fun c hc => by rw [upd_ne (by omega), h c hc]]
end SEA
