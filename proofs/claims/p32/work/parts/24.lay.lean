theorem i_nx (t : Nat) : nI 11 - nI (t + 1) + nI 1 = nI 11 - nI t := by
  rw [← nI_add]
  grind
theorem nI_v {t : Nat} (h : t ≤ 12) : QI 12 (nI 11 - nI t) := by
  by_cases h1 : t = 12
  · subst h1; exact Or.inl (by decide)
  · exact Or.inr ⟨11 - t, by omega, pk_sub (by omega)⟩
theorem nI_v11 {t : Nat} (h : t ≤ 12) : ¬ (nI 11 - nI (t + 1) = nI 11) := by
  intro e
  by_cases h1 : t < 11
  · rw [pk_sub (by omega), nI_eq (by omega) (by decide)] at e
    omega
  · obtain rfl | rfl : t = 11 ∨ t = 12 := by omega
    · exact absurd e (by decide)
    · exact absurd e (by decide)
/-- the search of the reference: what it keeps is the picks, the best picks, their sum -/
abbrev SG : Type := (Nat → Int32) × (Nat → Int32) × Int32
def dst (ga : Nat → Int32) (D : Nat) (sub : SG → SG) (t : Nat) (s : SG) : SG := if F_5canPick D ga (upd s.1 D (nI 11 - nI t)) = 0 then (upd s.1 D (nI 11 - nI t), s.2) else sub (upd s.1 D (nI 11 - nI t), s.2)
def dv (ga : Nat → Int32) (D : Nat) (sub : SG → SG) : Nat → SG → SG
  | 0, s => s
  | t + 1, s => dv ga D sub t (dst ga D sub t s)
def sub3 (ga : Nat → Int32) (s : SG) : SG := (s.1, F_5keepPicks_be ga s.1 s.2.1 s.2.2, F_5keepPicks_bm ga s.1 s.2.1 s.2.2)
def sub2 (ga : Nat → Int32) (s : SG) : SG := dv ga 3 (sub3 ga) 13 (upd s.1 3 (-2), s.2)
def sub1 (ga : Nat → Int32) (s : SG) : SG := dv ga 2 (sub2 ga) 13 (upd s.1 2 (-2), s.2)
def sub0 (ga : Nat → Int32) (s : SG) : SG := dv ga 1 (sub1 ga) 13 (upd s.1 1 (-2), s.2)
def sg0 (ga pi be : Nat → Int32) : SG := dv ga 0 (sub0 ga) 13 (upd pi 0 (-2), be, -1)
theorem dv_lo {ga : Nat → Int32} {D : Nat} {sub : SG → SG} (hs : ∀ s j, j ≤ D → (sub s).1 j = s.1 j) : ∀ (t : Nat) (s : SG) (j : Nat), j < D → (dv ga D sub t s).1 j = s.1 j
  | 0, s, j, _ => rfl
  | t + 1, s, j, h => by
    have h1 : (dst ga D sub t s).1 j = s.1 j := by
      unfold dst
      split
      · exact upd_ne (by omega)
      · rw [hs _ j (by omega)]; exact upd_ne (by omega)
    exact (dv_lo hs t _ j h).trans h1
theorem sub3_lo (ga : Nat → Int32) (s : SG) (j : Nat) (_ : j ≤ 3) : (sub3 ga s).1 j = s.1 j := rfl
theorem sub2_lo (ga : Nat → Int32) (s : SG) (j : Nat) (h : j ≤ 2) : (sub2 ga s).1 j = s.1 j := (dv_lo (sub3_lo ga) 13 _ j (by omega)).trans (upd_ne (by omega))
theorem sub1_lo (ga : Nat → Int32) (s : SG) (j : Nat) (h : j ≤ 1) : (sub1 ga s).1 j = s.1 j := (dv_lo (sub2_lo ga) 13 _ j (by omega)).trans (upd_ne (by omega))
theorem sub0_lo (ga : Nat → Int32) (s : SG) (j : Nat) (h : j ≤ 0) : (sub0 ga s).1 j = s.1 j := (dv_lo (sub1_lo ga) 13 _ j (by omega)).trans (upd_ne (by omega))
def F_5layBest_ga (m : Nat) (nv : Nat) (nc : Nat) (z : Nat → Int32) (ga : Nat → Int32) : Nat → Int32 := (F_5layGains_ga m nv nc z ga)
def F_5layBest_pi (m : Nat) (nv : Nat) (nc : Nat) (z : Nat → Int32) (ga : Nat → Int32) (pi : Nat → Int32) (be : Nat → Int32) : Nat → Int32 := ((sg0 (F_5layGains_ga m nv nc z ga) pi be).1)
def F_5layBest_be (m : Nat) (nv : Nat) (nc : Nat) (z : Nat → Int32) (ga : Nat → Int32) (pi : Nat → Int32) (be : Nat → Int32) : Nat → Int32 := ((sg0 (F_5layGains_ga m nv nc z ga) pi be).2.1)
def F_5layBest_bm (m : Nat) (nv : Nat) (nc : Nat) (z : Nat → Int32) (ga : Nat → Int32) (pi : Nat → Int32) (be : Nat → Int32) : Int32 := ((sg0 (F_5layGains_ga m nv nc z ga) pi be).2.2)
