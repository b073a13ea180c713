/-! A CRADLE AND ITS VOLUME as a record: 0 work, 1 leaves scanned on it, 2 state, 3 strain, from 4 on the volume's leaves -/
def nlr (r : Nat → Int32) (n : Nat) : Option Nat := nlB (fun k => r (4 + 3 * k)) n 0
/-- leaf k is scanned -/
def scR (s2 : Int32) (k : Nat) (r : Nat → Int32) : Nat → Int32 :=
  if r 3 + nI 1 < s2 then upd (upd (upd (upd (upd r 0 (nI 0)) 1 (r 1 + nI 1)) (4 + 3 * k) (nI 1)) (4 + 3 * k + 1) (r (4 + 3 * k + 1) + nI 1)) 3 (r 3 + nI 1)
  else upd (upd (upd (upd (upd (upd r 0 (nI 0)) 1 (r 1 + nI 1)) (4 + 3 * k) (nI 1)) (4 + 3 * k + 1) (r (4 + 3 * k + 1) + nI 1)) 3 (nI 0)) 2 (r 2 + nI 1)
/-- one minute in which the volume lies there -/
def one (s0 s1 s2 g : Int32) (n : Nat) (r : Nat → Int32) : Nat → Int32 := match nlr r n with
  | none => r
  | some k => if g < r 2 then r else if s0 + s1 * r 2 ≤ r 0 + nI 1 then scR s2 k r else upd r 0 (r 0 + nI 1)
def it (s0 s1 s2 g : Int32) (n : Nat) (r : Nat → Int32) : Nat → (Nat → Int32)
  | 0 => r
  | j + 1 => one s0 s1 s2 g n (it s0 s1 s2 g n r j)
theorem it_add (s0 s1 s2 g : Int32) (n : Nat) (r : Nat → Int32) (a : Nat) : ∀ b : Nat, it s0 s1 s2 g n r (a + b) = it s0 s1 s2 g n (it s0 s1 s2 g n r a) b
  | 0 => rfl
  | b + 1 => congrArg (one s0 s1 s2 g n) (it_add s0 s1 s2 g n r a b)
/-- it would work -/
def alive (g : Int32) (n : Nat) (r : Nat → Int32) : Prop := nlr r n ≠ none ∧ ¬ g < r 2
theorem one_dead {s0 s1 s2 g : Int32} {n : Nat} {r : Nat → Int32} (h : ¬ alive g n r) : one s0 s1 s2 g n r = r := by
  unfold one
  cases hk : nlr r n with
  | none => rfl
  | some k =>
    dsimp only
    have hg : g < r 2 := by
      by_cases q : g < r 2
      · exact q
      · exact absurd (show alive g n r from ⟨(by rw [hk]; exact fun e => Option.some_ne_none k e), q⟩) h
    rw [if_pos hg]
theorem it_dead {s0 s1 s2 g : Int32} {n : Nat} {r : Nat → Int32} (h : ¬ alive g n r) : ∀ j : Nat, it s0 s1 s2 g n r j = r
  | 0 => rfl
  | j + 1 => by
    show one s0 s1 s2 g n (it s0 s1 s2 g n r j) = r
    rw [it_dead h j, one_dead h]
/-- what a record keeps -/
def RB (r : Nat → Int32) : Prop := (∃ a : Nat, a ≤ 35 ∧ r 0 = nI a) ∧ (∃ a : Nat, a ≤ 3 ∧ r 2 = nI a) ∧ ∃ a : Nat, a ≤ 200 ∧ r 3 = nI a
theorem nlr_upd {r : Nat → Int32} {n i : Nat} {x : Int32} (h : ∀ k, k < n → i ≠ 4 + 3 * k) : nlr (upd r i x) n = nlr r n := nlB_congr fun j _ hj => upd_ne (fun e => h j (by omega) e.symm)
/-- the leaves that aren't good -/
def cnt (r : Nat → Int32) : Nat → Nat
  | 0 => 0
  | k + 1 => cnt r k + if r (4 + 3 * k) = nI 1 then 0 else 1
theorem cnt_congr {r r' : Nat → Int32} : ∀ n : Nat, (∀ k, k < n → r' (4 + 3 * k) = r (4 + 3 * k)) → cnt r' n = cnt r n
  | 0, _ => rfl
  | n + 1, h => by
    unfold cnt
    rw [cnt_congr n (fun k hk => h k (by omega)), h n (by omega)]
theorem nlr_ne1 {r : Nat → Int32} {n k : Nat} (h : nlr r n = some k) : k < n ∧ ¬ r (4 + 3 * k) = nI 1 := by
  unfold nlr nlB at h
  split at h
  · rename_i q hq
    cases h
    have h2 := fi_some hq
    have h3 : r (4 + 3 * k) = nI 2 := h2.2.2
    exact ⟨by omega, by rw [h3]; decide⟩
  · have h2 := fi_some h
    have h3 : r (4 + 3 * k) = nI 0 := h2.2.2
    exact ⟨by omega, by rw [h3]; decide⟩
theorem cnt_pos {r : Nat → Int32} {n k : Nat} (hk : k < n) (h : ¬ r (4 + 3 * k) = nI 1) : 1 ≤ cnt r n := by
  induction n with
  | zero => omega
  | succ n ih =>
    unfold cnt
    by_cases e : k = n
    · subst e
      rw [if_neg h]
      omega
    · have := ih (by omega)
      omega
theorem cnt_scan {r r' : Nat → Int32} {k : Nat} (h1 : r' (4 + 3 * k) = nI 1) (h2 : ¬ r (4 + 3 * k) = nI 1) : ∀ n : Nat, k < n → (∀ j, j < n → j ≠ k → r' (4 + 3 * j) = r (4 + 3 * j)) → cnt r' n + 1 = cnt r n
  | 0, h, _ => by omega
  | n + 1, h, ho => by
    unfold cnt
    by_cases e : k = n
    · subst e
      rw [if_pos h1, if_neg h2, cnt_congr k (fun j hj => ho j (by omega) (by omega))]
    · have := cnt_scan h1 h2 n (by omega) (fun j hj => ho j (by omega))
      rw [ho n (by omega) (fun q => e q.symm)]
      omega
theorem scR_leaf {s2 : Int32} {k : Nat} {r : Nat → Int32} : scR s2 k r (4 + 3 * k) = nI 1 ∧ ∀ j, j ≠ k → scR s2 k r (4 + 3 * j) = r (4 + 3 * j) := by
  unfold scR
  split
  · refine ⟨by rw [upd_ne (by omega), upd_ne (by omega), upd_eq], fun j hj => ?_⟩
    rw [upd_ne (by omega), upd_ne (by omega), upd_ne (by omega), upd_ne (by omega), upd_ne (by omega)]
  · refine ⟨by rw [upd_ne (by omega), upd_ne (by omega), upd_ne (by omega), upd_eq], fun j hj => ?_⟩
    rw [upd_ne (by omega), upd_ne (by omega), upd_ne (by omega), upd_ne (by omega), upd_ne (by omega), upd_ne (by omega)]
theorem cnt_scR {s2 : Int32} {k n : Nat} {r : Nat → Int32} (h : nlr r n = some k) : cnt (scR s2 k r) n + 1 = cnt r n := cnt_scan scR_leaf.1 (nlr_ne1 h).2 n (nlr_ne1 h).1 fun j _ hj => scR_leaf.2 j hj
theorem scR_0 {s2 : Int32} {k : Nat} {r : Nat → Int32} : scR s2 k r 0 = nI 0 ∧ scR s2 k r 1 = r 1 + nI 1 := by
  unfold scR
  split
  · refine ⟨?_, ?_⟩
    · rw [upd_ne (by omega), upd_ne (by omega), upd_ne (by omega), upd_ne (by omega), upd_eq]
    · rw [upd_ne (by omega), upd_ne (by omega), upd_ne (by omega), upd_eq]
  · refine ⟨?_, ?_⟩
    · rw [upd_ne (by omega), upd_ne (by omega), upd_ne (by omega), upd_ne (by omega), upd_ne (by omega), upd_eq]
    · rw [upd_ne (by omega), upd_ne (by omega), upd_ne (by omega), upd_ne (by omega), upd_eq]
theorem scR_23 {s2 : Int32} {k : Nat} {r : Nat → Int32} : scR s2 k r 2 = (if r 3 + nI 1 < s2 then r 2 else r 2 + nI 1) ∧ scR s2 k r 3 = if r 3 + nI 1 < s2 then r 3 + nI 1 else nI 0 := by
  unfold scR
  split
  · refine ⟨?_, ?_⟩
    · rw [upd_ne (by omega), upd_ne (by omega), upd_ne (by omega), upd_ne (by omega), upd_ne (by omega)]
    · rw [upd_eq]
  · refine ⟨?_, ?_⟩
    · rw [upd_eq]
    · rw [upd_ne (by omega), upd_eq]
theorem scR_RB {b2 g k : Nat} {r : Nat → Int32} (hb : b2 ≤ 200) (hg : g ≤ 2) (h : RB r) (ha : ¬ nI g < r 2) : RB (scR (nI b2) k r) := by
  obtain ⟨⟨a, h1, h2⟩, ⟨b, h3, h4⟩, c, h5, h6⟩ := h
  have hb2 : b ≤ g := by
    rw [h4] at ha
    have := mt (nI_ltI (a := g) (b := b) (by omega) (by omega)).mpr ha
    omega
  refine ⟨⟨0, by omega, scR_0.1⟩, ?_, ?_⟩
  · rw [scR_23.1, h4]
    split
    · exact ⟨b, by omega, rfl⟩
    · exact ⟨b + 1, by omega, nI_add b 1⟩
  · rw [scR_23.2, h6, nI_add]
    split
    · rename_i q
      have := (nI_ltI (a := c + 1) (b := b2) (by omega) (by omega)).mp q
      exact ⟨c + 1, by omega, rfl⟩
    · exact ⟨0, by omega, rfl⟩
theorem upd_upd {r : Nat → Int32} {i : Nat} {x y : Int32} : upd (upd r i x) i y = upd r i y := by
  funext j
  by_cases h : j = i
  · rw [h, upd_eq, upd_eq]
  · rw [upd_ne h, upd_ne h, upd_ne h]
theorem upd_self {r : Nat → Int32} {i : Nat} : upd r i (r i) = r := by
  funext j
  by_cases h : j = i
  · rw [h, upd_eq]
  · rw [upd_ne h]
theorem scR_w {s2 : Int32} {k : Nat} {r : Nat → Int32} {x : Int32} : scR s2 k (upd r 0 x) = scR s2 k r := by
  unfold scR
  rw [upd_upd, upd_ne (show 3 ≠ 0 by omega), upd_ne (show 1 ≠ 0 by omega), upd_ne (show 4 + 3 * k + 1 ≠ 0 by omega), upd_ne (show 2 ≠ 0 by omega)]
/-- the minutes until the next scan -/
def qN (nd w : Nat) : Nat := if 1 < nd - w then nd - w else 1
section JMP
variable {a0 a1 b2 g n : Nat} {r : Nat → Int32}
theorem it_upd {w st k : Nat} (ha0 : a0 ≤ 9) (ha1 : a1 ≤ 9) (hw : r 0 = nI w) (hw35 : w ≤ 35) (hst : r 2 = nI st) (hst3 : st ≤ 3) (hk : nlr r n = some k) (ha : ¬ nI g < r 2) : ∀ i : Nat, i < qN (a0 + a1 * st) w → it (nI a0) (nI a1) (nI b2) (nI g) n r i = upd r 0 (nI (w + i))
  | 0, _ => by
    show r = _
    rw [Nat.add_zero, ← hw, upd_self]
  | i + 1, hi => by
    show one (nI a0) (nI a1) (nI b2) (nI g) n (it (nI a0) (nI a1) (nI b2) (nI g) n r i) = _
    have hm : a1 * st ≤ 27 := Nat.le_trans (Nat.mul_le_mul ha1 hst3) (by omega)
    have hq : i + 1 < a0 + a1 * st - w := by
      unfold qN at hi
      split at hi <;> omega
    rw [it_upd ha0 ha1 hw hw35 hst hst3 hk ha i (by omega)]
    unfold one
    rw [nlr_upd (fun q _ => by omega), hk]
    dsimp only
    rw [upd_ne (show 2 ≠ 0 by omega), if_neg ha, upd_eq, hst, pk_mul, nI_add, nI_add, if_neg (fun q => by
      have := (nI_leI (a := a0 + a1 * st) (b := w + i + 1) (by omega) (by omega)).mp q
      omega), upd_upd]
    rfl
theorem it_scan {w st k : Nat} (ha0 : a0 ≤ 9) (ha1 : a1 ≤ 9) (hw : r 0 = nI w) (hw35 : w ≤ 35) (hst : r 2 = nI st) (hst3 : st ≤ 3) (hk : nlr r n = some k) (ha : ¬ nI g < r 2) : it (nI a0) (nI a1) (nI b2) (nI g) n r (qN (a0 + a1 * st) w) = scR (nI b2) k r := by
  have hm : a1 * st ≤ 27 := Nat.le_trans (Nat.mul_le_mul ha1 hst3) (by omega)
  obtain ⟨i, hi⟩ : ∃ i, qN (a0 + a1 * st) w = i + 1 := ⟨qN (a0 + a1 * st) w - 1, by unfold qN; split <;> omega⟩
  have hq : a0 + a1 * st ≤ w + i + 1 := by
    unfold qN at hi
    split at hi <;> omega
  have hi2 : i ≤ 36 := by
    unfold qN at hi
    split at hi <;> omega
  rw [hi]
  show one (nI a0) (nI a1) (nI b2) (nI g) n (it (nI a0) (nI a1) (nI b2) (nI g) n r i) = _
  rw [it_upd ha0 ha1 hw hw35 hst hst3 hk ha i (by omega)]
  unfold one
  rw [nlr_upd (fun q _ => by omega), hk]
  dsimp only
  rw [upd_ne (show 2 ≠ 0 by omega), if_neg ha, upd_eq, hst, pk_mul, nI_add, nI_add, if_pos ((nI_leI (by omega) (by omega)).mpr hq), scR_w]
/-- the class's way from scan to scan -/
def jm (s0 s1 s2 g : Int32) (n : Nat) (m : Int32) : Nat → Int32 → (Nat → Int32) → Int32 × (Nat → Int32)
  | 0, x, r => (x, r)
  | f + 1, x, r => if m ≤ x then (x, r) else match nlr r n with
    | none => (x, r)
    | some k => if g < r 2 then (x, r) else if (if nI 1 < s0 + s1 * r 2 - r 0 then s0 + s1 * r 2 - r 0 else nI 1) ≤ m - x then jm s0 s1 s2 g n m f (x + (if nI 1 < s0 + s1 * r 2 - r 0 then s0 + s1 * r 2 - r 0 else nI 1)) (scR s2 k r) else (m, upd r 0 (r 0 + (m - x)))
theorem qN_i {nd w : Nat} (h1 : nd < 1000) (h2 : w < 1000) : (if nI 1 < nI nd - nI w then nI nd - nI w else nI 1) = nI (qN nd w) := by
  unfold qN
  by_cases h : 1 < nd - w
  · rw [if_pos h, pk_sub (by omega), if_pos ((nI_ltI (by omega) (by omega)).mpr h)]
  · rw [if_neg h]
    have : ¬ nI 1 < nI nd - nI w := by
      intro q
      by_cases hle : w ≤ nd
      · rw [pk_sub hle] at q
        have := (nI_ltI (a := 1) (b := nd - w) (by omega) (by omega)).mp q
        omega
      · have hs := pk_sub_toInt (a := nd) (b := w) (by omega) (by omega)
        rw [Int32.lt_iff_toInt_lt, hs, nI_toInt (by omega)] at q
        omega
    rw [if_neg this]
/-- from scan to scan is minute by minute: in all, and in how many minutes it worked -/
theorem jm_it (ha0 : a0 ≤ 9) (ha1 : a1 ≤ 9) (hb2 : b2 ≤ 200) (hg : g ≤ 2) {m : Nat} (hm : m < 10000) : ∀ (f x : Nat) (r : Nat → Int32), x ≤ m → RB r → cnt r n ≤ f →
    ∃ u : Nat, u ≤ m - x ∧ jm (nI a0) (nI a1) (nI b2) (nI g) n (nI m) f (nI x) r = (nI (x + u), it (nI a0) (nI a1) (nI b2) (nI g) n r (m - x)) ∧ u ≤ 37 * cnt r n ∧ (∀ t, t < u → alive (nI g) n (it (nI a0) (nI a1) (nI b2) (nI g) n r t)) ∧ (u = m - x ∨ ¬ alive (nI g) n (it (nI a0) (nI a1) (nI b2) (nI g) n r u))
  | 0, x, r, hx, hr, hc => by
    have hd : ¬ alive (nI g) n r := by
      rintro ⟨h1, -⟩
      cases hk : nlr r n with
      | none => exact h1 hk
      | some k =>
        have := cnt_pos (nlr_ne1 hk).1 (nlr_ne1 hk).2
        omega
    exact ⟨0, by omega, by rw [it_dead hd]; rfl, by omega, fun t ht => by omega, Or.inr hd⟩
  | f + 1, x, r, hx, hr, hc => by
    unfold jm
    by_cases hmx : m ≤ x
    · obtain rfl : m = x := by omega
      rw [if_pos (nI_le (Nat.le_refl _) (by omega)), Nat.sub_self]
      exact ⟨0, by omega, rfl, by omega, fun t ht => by omega, Or.inl rfl⟩
    · rw [if_neg (nI_ge (by omega) (by omega))]
      obtain ⟨⟨w, hw35, hw⟩, ⟨st, hst3, hst⟩, hsr⟩ := id hr
      cases hk : nlr r n with
      | none =>
        have hd : ¬ alive (nI g) n r := fun q => q.1 hk
        exact ⟨0, by omega, by rw [it_dead hd]; rfl, by omega, fun t ht => by omega, Or.inr hd⟩
      | some k =>
        dsimp only
        by_cases hgr : nI g < r 2
        · have hd : ¬ alive (nI g) n r := fun q => q.2 hgr
          rw [if_pos hgr]
          exact ⟨0, by omega, by rw [it_dead hd]; rfl, by omega, fun t ht => by omega, Or.inr hd⟩
        · rw [if_neg hgr]
          have hmm : a1 * st ≤ 27 := Nat.le_trans (Nat.mul_le_mul ha1 hst3) (by omega)
          have hal : ∀ t, t < qN (a0 + a1 * st) w → alive (nI g) n (it (nI a0) (nI a1) (nI b2) (nI g) n r t) := by
            intro t ht
            rw [it_upd ha0 ha1 hw hw35 hst hst3 hk hgr t ht]
            refine ⟨?_, ?_⟩
            · rw [nlr_upd (fun q _ => by omega), hk]
              exact fun e => by cases e
            · rw [upd_ne (show 2 ≠ 0 by omega)]
              exact hgr
          have hq37 : qN (a0 + a1 * st) w ≤ 37 := by unfold qN; split <;> omega
          have hq1 : 1 ≤ qN (a0 + a1 * st) w := by unfold qN; split <;> omega
          have hcp := cnt_pos (nlr_ne1 hk).1 (nlr_ne1 hk).2
          have e1 : (if nI 1 < nI a0 + nI a1 * r 2 - r 0 then nI a0 + nI a1 * r 2 - r 0 else nI 1) = nI (qN (a0 + a1 * st) w) := by
            rw [hst, hw, pk_mul, nI_add]
            exact qN_i (by omega) (by omega)
          rw [e1, pk_sub (show x ≤ m by omega)]
          by_cases hle : qN (a0 + a1 * st) w ≤ m - x
          · rw [if_pos (nI_le hle (by omega)), nI_add]
            have hcs := cnt_scR (s2 := nI b2) hk
            obtain ⟨u, hu1, hu2, hu3, hu4, hu5⟩ := jm_it ha0 ha1 hb2 hg hm f (x + qN (a0 + a1 * st) w) (scR (nI b2) k r) (by omega) (scR_RB hb2 hg hr hgr) (by omega)
            have hsc := it_scan (b2 := b2) (n := n) ha0 ha1 hw hw35 hst hst3 hk hgr
            have hit : ∀ t, it (nI a0) (nI a1) (nI b2) (nI g) n r (qN (a0 + a1 * st) w + t) = it (nI a0) (nI a1) (nI b2) (nI g) n (scR (nI b2) k r) t := fun t => by rw [it_add, hsc]
            refine ⟨qN (a0 + a1 * st) w + u, by omega, ?_, by omega, fun t ht => ?_, ?_⟩
            · rw [hu2, ← hit, show qN (a0 + a1 * st) w + (m - (x + qN (a0 + a1 * st) w)) = m - x by omega, Nat.add_assoc]
            · by_cases h9 : t < qN (a0 + a1 * st) w
              · exact hal t h9
              · have := hu4 (t - qN (a0 + a1 * st) w) (by omega)
                rw [← hit, show qN (a0 + a1 * st) w + (t - qN (a0 + a1 * st) w) = t by omega] at this
                exact this
            · rcases hu5 with h9 | h9
              · exact Or.inl (by omega)
              · rw [← hit] at h9
                exact Or.inr h9
          · rw [if_neg (nI_ge (by omega) (by omega))]
            refine ⟨m - x, Nat.le_refl _, ?_, by omega, fun t ht => hal t (by omega), Or.inl rfl⟩
            rw [it_upd ha0 ha1 hw hw35 hst hst3 hk hgr (m - x) (by omega), hw, nI_add, show x + (m - x) = m by omega]
end JMP
