/-! THE SMALL MACHINE. A heap is a list of segments (segment 0: old arrays that nobody writes; the last: what is made later); a reference is 4096 * segment + place. -/
abbrev AC : Type := ((Nat × (Nat → Int32)) ⊕ (Nat × (Nat → Int64))) ⊕ (Nat × List Value)
abbrev AH : Type := List (List AC)
abbrev AL : Type := List (Option Value)
def ab_get (h : AH) (r : Nat) : Option AC := match h[r / 4096]? with
  | some s => s[r % 4096]?
  | none => none
def ab_set (h : AH) (r : Nat) (c : AC) : AH := match h[r / 4096]? with
  | some s => h.set (r / 4096) (s.set (r % 4096) c)
  | none => h
/-- the surroundings: launch, class ids, the classes of int and long arrays, old addresses, the first new address, the segments' sizes, whether nothing else is made -/
abbrev AE : Type := Launch × va_G × ClassId × ClassId × (Nat → Nat) × Nat × List Nat × Bool
abbrev AE.l (E : AE) : Launch := E.1
abbrev AE.D (E : AE) : va_G := E.2.1
abbrev AE.cI (E : AE) : ClassId := E.2.2.1
abbrev AE.cJ (E : AE) : ClassId := E.2.2.2.1
abbrev AE.old (E : AE) : Nat → Nat := E.2.2.2.2.1
abbrev AE.N0 (E : AE) : Nat := E.2.2.2.2.2.1
abbrev AE.caps (E : AE) : List Nat := E.2.2.2.2.2.2.1
abbrev AE.ex (E : AE) : Bool := E.2.2.2.2.2.2.2
def ab_A (E : AE) : Nat → Prop := fun q => E.N0 ≤ q
def ab_off (cs : List Nat) (j : Nat) : Nat := (cs.take j).sum
def ab_adr (E : AE) (r : Nat) : Nat := if r / 4096 = 0 then E.old (r % 4096) else E.N0 + ab_off E.caps (r / 4096 - 1) + r % 4096
def ab_v (E : AE) : Value → Value
  | .ref r => .ref (ab_adr E r)
  | v => v
def ab_cell (E : AE) : AC → va_E
  | .inl (.inl a) => .inl (E.cI, a.1, .inl a.2)
  | .inl (.inr a) => .inl (E.cJ, a.1, .inr (.inl a.2))
  | .inr o => .inr (o.1, o.2.map (ab_v E))
abbrev ab_tys (E : AE) : List (ClassId × FieldType) := [(E.cI, .int)]
/-- an old array of ints: of at least L places, its length as an int L's -/
def ab_X (b L : Nat) (xs : Nat → Int32) (U : State) (H : Heap) : Prop := ∃ scr : Cell, H[b]? = some scr ∧ U.isArrayOf scr .int ∧ scr.vm ≠ .unknown ∧ L ≤ scr.slots.size ∧ scr.slots.size.toInt32 = Int32.ofNat L ∧ ∀ j : Nat, j < L → scr.slots[j]? = some (.int (xs j))
theorem ab_X.kept {b L : Nat} {xs : Nat → Int32} {U : State} {H H1 : Heap} (h : ab_X b L xs U H) (hq : H1[b]? = H[b]?) : ab_X b L xs U H1 := by
  obtain ⟨scr, h1, h2⟩ := h
  exact ⟨scr, by rw [hq]; exact h1, h2⟩
theorem ab_X.moved {b L : Nat} {xs : Nat → Int32} {u U : State} {H : Heap} (hvm : u.vm.Alike U.vm) (h : ab_X b L xs u H) : ab_X b L xs U H := by
  obtain ⟨scr, h1, h2, h3⟩ := h
  exact ⟨scr, h1, State.isArrayOf_alike hvm h2, h3⟩
/-- the heap H holds h -/
def ab_R (E : AE) (h : AH) (U : State) (H : Heap) : Prop :=
  (∀ (j n : Nat), E.caps[j]? = some n → ∃ s, h[j + 1]? = some s ∧ s.length = n) ∧
  (∃ tl, h[E.caps.length + 1]? = some tl ∧ E.N0 + E.caps.sum + tl.length ≤ H.size ∧ (E.ex = true → H.size = E.N0 + E.caps.sum + tl.length)) ∧
  h.length = E.caps.length + 2 ∧
  (∀ (r : Nat) (c : AC), ¬ r / 4096 = 0 → ab_get h r = some c → va_at E.D vwCl (ab_adr E r, ab_cell E c) H) ∧
  (∀ (r : Nat) (c : AC), r / 4096 = 0 → ab_get h r = some c → ∃ (n : Nat) (f : Nat → Int32), c = .inl (.inl (n, f)) ∧ ab_adr E r < E.N0 ∧ ab_X (ab_adr E r) n f U H)
theorem ab_off_le (cs : List Nat) : ∀ i j : Nat, i ≤ j → ab_off cs i ≤ ab_off cs j := by
  intro i j h
  unfold ab_off
  induction cs generalizing i j with
  | nil => simp
  | cons c cs ih =>
    cases i with
    | zero => simp
    | succ i =>
      cases j with
      | zero => omega
      | succ j =>
        simp only [List.take_succ_cons, List.sum_cons]
        have := ih i j (by omega)
        omega
theorem ab_off_succ (cs : List Nat) : ∀ (j n : Nat), cs[j]? = some n → ab_off cs (j + 1) = ab_off cs j + n := by
  intro j n h
  unfold ab_off
  induction cs generalizing j with
  | nil => simp at h
  | cons c cs ih =>
    cases j with
    | zero => simp at h; subst h; simp
    | succ j =>
      simp only [List.take_succ_cons, List.sum_cons, List.getElem?_cons_succ] at h ⊢
      have := ih j h
      omega
theorem ab_off_all (cs : List Nat) : ab_off cs cs.length = cs.sum := by unfold ab_off; rw [List.take_length]
theorem ab_get_some {h : AH} {r : Nat} {c : AC} (hg : ab_get h r = some c) : ∃ s, h[r / 4096]? = some s ∧ s[r % 4096]? = some c := by
  unfold ab_get at hg
  cases hs : h[r / 4096]? with
  | none => rw [hs] at hg; cases hg
  | some s => rw [hs] at hg; exact ⟨s, rfl, hg⟩
/-- where a place of a new segment lies -/
theorem ab_where {E : AE} {h : AH} {U : State} {H : Heap} (hR : ab_R E h U H) {r : Nat} {c : AC} (h0 : ¬ r / 4096 = 0) (hg : ab_get h r = some c) :
    (r / 4096 - 1 < E.caps.length ∧ ab_off E.caps (r / 4096 - 1) + r % 4096 < ab_off E.caps (r / 4096)) ∨ (r / 4096 - 1 = E.caps.length ∧ ab_off E.caps (r / 4096 - 1) + r % 4096 + E.N0 < H.size) := by
  obtain ⟨s, h1, h2⟩ := ab_get_some hg
  obtain ⟨g1, ⟨tl, g2, g3, -⟩, g4, -, -⟩ := hR
  have hl : r / 4096 < h.length := (List.getElem?_eq_some_iff.mp h1).1
  have hi : r % 4096 < s.length := (List.getElem?_eq_some_iff.mp h2).1
  by_cases hj : r / 4096 - 1 < E.caps.length
  · obtain ⟨n, hn⟩ : ∃ n, E.caps[r / 4096 - 1]? = some n := ⟨_, List.getElem?_eq_getElem hj⟩
    obtain ⟨s', h3, h4⟩ := g1 _ _ hn
    rw [show r / 4096 - 1 + 1 = r / 4096 by omega] at h3
    cases h1.symm.trans h3
    have h5 := ab_off_succ _ _ _ hn
    rw [show r / 4096 - 1 + 1 = r / 4096 by omega] at h5
    left; exact ⟨hj, by omega⟩
  · have he : r / 4096 - 1 = E.caps.length := by omega
    have h3 : h[r / 4096]? = some tl := by rw [show r / 4096 = E.caps.length + 1 by omega]; exact g2
    cases h1.symm.trans h3
    have h5 := ab_off_all E.caps
    right
    refine ⟨he, ?_⟩
    rw [he, h5]
    omega
theorem ab_adr_new {E : AE} {r : Nat} (h0 : ¬ r / 4096 = 0) : ab_adr E r = E.N0 + ab_off E.caps (r / 4096 - 1) + r % 4096 := by unfold ab_adr; rw [if_neg h0]
theorem ab_ge {E : AE} {r : Nat} (h0 : ¬ r / 4096 = 0) : ab_A E (ab_adr E r) := by
  rw [ab_adr_new h0]; unfold ab_A; omega
theorem ab_inj {E : AE} {h : AH} {U : State} {H : Heap} (hR : ab_R E h U H) {r r' : Nat} {c c' : AC} (h0 : ¬ r / 4096 = 0) (h0' : ¬ r' / 4096 = 0) (hg : ab_get h r = some c) (hg' : ab_get h r' = some c') (he : ab_adr E r = ab_adr E r') : r = r' := by
  have w := ab_where hR h0 hg
  have w' := ab_where hR h0' hg'
  rw [ab_adr_new h0, ab_adr_new h0'] at he
  rcases Nat.lt_trichotomy (r / 4096) (r' / 4096) with hlt | heq | hgt
  · have := ab_off_le E.caps (r / 4096) (r' / 4096 - 1) (by omega)
    rcases w with ⟨w1, w2⟩ | ⟨w1, w2⟩
    · omega
    · rcases w' with ⟨w3, w4⟩ | ⟨w3, w4⟩ <;> omega
  · rw [heq] at he
    omega
  · have := ab_off_le E.caps (r' / 4096) (r / 4096 - 1) (by omega)
    rcases w' with ⟨w1, w2⟩ | ⟨w1, w2⟩
    · omega
    · rcases w with ⟨w3, w4⟩ | ⟨w3, w4⟩ <;> omega
theorem ab_get_set {h : AH} {r : Nat} {c c0 : AC} (hg : ab_get h r = some c0) (q : Nat) : ab_get (ab_set h r c) q = if q = r then some c else ab_get h q := by
  obtain ⟨s, h1, h2⟩ := ab_get_some hg
  have hl : r / 4096 < h.length := (List.getElem?_eq_some_iff.mp h1).1
  have hi : r % 4096 < s.length := (List.getElem?_eq_some_iff.mp h2).1
  unfold ab_set ab_get
  rw [h1]
  dsimp only
  by_cases hj : q / 4096 = r / 4096
  · rw [hj, List.getElem?_set_self hl, h1]
    dsimp only
    by_cases hi2 : q % 4096 = r % 4096
    · rw [hi2, List.getElem?_set_self hi, if_pos (by omega)]
    · rw [List.getElem?_set_ne (fun e => hi2 e.symm), if_neg (by intro e; subst e; exact hi2 rfl)]
  · rw [List.getElem?_set_ne (fun e => hj e.symm), if_neg (by intro e; subst e; exact hj rfl)]
theorem ab_set_seg {h : AH} {r : Nat} {c c0 : AC} (hg : ab_get h r = some c0) : (ab_set h r c).length = h.length ∧ ∀ j : Nat, (∃ s, h[j]? = some s) → ∃ s s', h[j]? = some s ∧ (ab_set h r c)[j]? = some s' ∧ s'.length = s.length := by
  obtain ⟨s, h1, h2⟩ := ab_get_some hg
  have hl : r / 4096 < h.length := (List.getElem?_eq_some_iff.mp h1).1
  unfold ab_set
  rw [h1]
  dsimp only
  refine ⟨by simp, fun j ⟨t, ht⟩ => ?_⟩
  by_cases hj : j = r / 4096
  · subst hj
    exact ⟨s, _, h1, List.getElem?_set_self hl, by simp⟩
  · exact ⟨t, t, ht, by rw [List.getElem?_set_ne (fun e => hj e.symm)]; exact ht, rfl⟩
/-- one new cell is written -/
theorem ab_R_set {E : AE} {h : AH} {U : State} {H H1 : Heap} (hR : ab_R E h U H) {r : Nat} {c0 c : AC} (h0 : ¬ r / 4096 = 0) (hg : ab_get h r = some c0) (ha : va_at E.D vwCl (ab_adr E r, ab_cell E c) H1) (hz : H1.size = H.size) (ho : ∀ q, q ≠ ab_adr E r → H1[q]? = H[q]?) : ab_R E (ab_set h r c) U H1 := by
  obtain ⟨e1, e2⟩ := ab_set_seg (c := c) hg
  have hR' := hR
  obtain ⟨g1, ⟨tl, g2, g3, g3e⟩, g4, g5, g6⟩ := hR
  refine ⟨fun j n hn => ?_, ?_, e1.trans g4, fun q d q0 hq => ?_, fun q d q0 hq => ?_⟩
  · obtain ⟨s, s1, s2⟩ := g1 j n hn
    obtain ⟨t, t', t1, t2, t3⟩ := e2 (j + 1) ⟨s, s1⟩
    cases s1.symm.trans t1
    exact ⟨t', t2, t3.trans s2⟩
  · obtain ⟨t, t', t1, t2, t3⟩ := e2 _ ⟨tl, g2⟩
    cases g2.symm.trans t1
    exact ⟨t', t2, by rw [hz, t3]; exact g3, fun z => by rw [hz, t3]; exact g3e z⟩
  · rw [ab_get_set hg] at hq
    by_cases e : q = r
    · rw [if_pos e] at hq
      cases hq
      rw [e]; exact ha
    · rw [if_neg e] at hq
      exact (g5 q d q0 hq).kept (ho _ (fun z => e (ab_inj hR' q0 h0 hq hg z)))
  · rw [ab_get_set hg] at hq
    by_cases e : q = r
    · rw [e] at q0; exact absurd q0 h0
    · rw [if_neg e] at hq
      obtain ⟨n, f, f1, f2, f3⟩ := g6 q d q0 hq
      refine ⟨n, f, f1, f2, f3.kept (ho _ (fun z => ?_))⟩
      have := ab_ge (E := E) h0
      unfold ab_A at this
      omega
/-- a cell is made, at the end -/
def ab_push (h : AH) (c : AC) : AH := h.set (h.length - 1) ((h.getD (h.length - 1) []) ++ [c])
theorem ab_R_push {E : AE} {h : AH} {U : State} {H H1 : Heap} (hR : ab_R E h U H) (hex : E.ex = true) {c : AC} (ha : va_at E.D vwCl (H.size, ab_cell E c) H1) (hz : H1.size = H.size + 1) (ho : ∀ q, q < H.size → H1[q]? = H[q]?) : ab_R E (ab_push h c) U H1 ∧ (∀ tl, h[E.caps.length + 1]? = some tl → ab_adr E (4096 * (E.caps.length + 1) + tl.length) = H.size ∨ 4096 ≤ tl.length) := by
  have hR' := hR
  obtain ⟨g1, ⟨tl, g2, -, g3e⟩, g4, g5, g6⟩ := hR
  have g3 := g3e hex
  have hl : h.length - 1 = E.caps.length + 1 := by omega
  have hd : h.getD (h.length - 1) [] = tl := by rw [List.getD_eq_getElem?_getD, hl, g2]; rfl
  have hlt : E.caps.length + 1 < h.length := by omega
  have hp : ab_push h c = h.set (E.caps.length + 1) (tl ++ [c]) := by unfold ab_push; rw [hd, hl]
  have low : ∀ (q : Nat) (d : AC), ab_get h q = some d → ¬ q / 4096 = 0 → ab_adr E q < H.size := fun q d hq q0 => (g5 q d q0 hq).lt
  refine ⟨?_, fun t ht => ?_⟩
  · rw [hp]
    refine ⟨fun j n hn => ?_, ⟨tl ++ [c], List.getElem?_set_self hlt, by rw [hz, g3]; simp; omega, fun _ => by rw [hz, g3]; simp; omega⟩, by simp [g4], fun q d q0 hq => ?_, fun q d q0 hq => ?_⟩
    · obtain ⟨s, s1, s2⟩ := g1 j n hn
      have hj : j < E.caps.length := (List.getElem?_eq_some_iff.mp hn).1
      exact ⟨s, by rw [List.getElem?_set_ne (by omega)]; exact s1, s2⟩
    · unfold ab_get at hq
      by_cases e : E.caps.length + 1 = q / 4096
      · rw [← e, List.getElem?_set_self hlt] at hq
        dsimp only at hq
        by_cases e2 : q % 4096 < tl.length
        · rw [List.getElem?_append_left e2] at hq
          have h9 : ab_get h q = some d := by unfold ab_get; rw [← e, g2]; exact hq
          exact (g5 q d q0 h9).kept (ho _ (low q d h9 q0))
        · rw [List.getElem?_append_right (by omega)] at hq
          have e3 : q % 4096 - tl.length = 0 := by
            have := (List.getElem?_eq_some_iff.mp hq).1
            simp at this
            omega
          rw [e3] at hq
          cases hq
          have e4 : ab_adr E q = H.size := by
            rw [ab_adr_new q0, ← e, g3, show E.caps.length + 1 - 1 = E.caps.length by omega, ab_off_all]
            omega
          rw [e4]; exact ha
      · rw [List.getElem?_set_ne e] at hq
        have h9 : ab_get h q = some d := by unfold ab_get; exact hq
        exact (g5 q d q0 h9).kept (ho _ (low q d h9 q0))
    · unfold ab_get at hq
      rw [List.getElem?_set_ne (by omega)] at hq
      have h9 : ab_get h q = some d := by unfold ab_get; exact hq
      obtain ⟨n, f, f1, f2, f3⟩ := g6 q d q0 h9
      refine ⟨n, f, f1, f2, f3.kept (ho _ ?_)⟩
      omega
  · cases g2.symm.trans ht
    by_cases e : 4096 ≤ tl.length
    · exact Or.inr e
    · left
      have e1 : (4096 * (E.caps.length + 1) + tl.length) / 4096 = E.caps.length + 1 := by omega
      have e2 : (4096 * (E.caps.length + 1) + tl.length) % 4096 = tl.length := by omega
      unfold ab_adr
      rw [e1, e2, if_neg (by omega), show E.caps.length + 1 - 1 = E.caps.length by omega, ab_off_all, g3]
/-- other cells may have been made -/
theorem ab_R_more {E : AE} {h : AH} {U : State} {H H1 : Heap} (hR : ab_R E h U H) (hex : E.ex = false) (hz : H.size ≤ H1.size) (ho : ∀ q, q < H.size → H1[q]? = H[q]?) : ab_R E h U H1 := by
  obtain ⟨g1, ⟨tl, g2, g3, -⟩, g4, g5, g6⟩ := hR
  refine ⟨g1, ⟨tl, g2, Nat.le_trans g3 hz, fun z => ?_⟩, g4, fun q d q0 hq => ?_, fun q d q0 hq => ?_⟩
  · rw [hex] at z; cases z
  · exact (g5 q d q0 hq).kept (ho _ (g5 q d q0 hq).lt)
  · obtain ⟨n, f, f1, f2, f3⟩ := g6 q d q0 hq
    exact ⟨n, f, f1, f2, f3.kept (ho _ (by omega))⟩
