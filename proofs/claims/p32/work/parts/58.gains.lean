/-! GAINS: the reference counts them with numbers alone, the class by a trial -/
theorem nlB_none {f : Nat → Int32} {m k : Nat} (h : ∀ j, k ≤ j → j < k + m → f j = nI 1) : nlB f m k = none := by
  cases hk : nlB f m k with
  | none => rfl
  | some q =>
    have hq := nlB_some hk
    have h1 := h q hq.1 hq.2
    unfold nlB at hk
    split at hk
    · rename_i q' hq'
      cases hk
      have := (fi_some hq').2.2
      rw [h1] at this
      exact absurd this (by decide)
    · have := (fi_some hk).2.2
      rw [h1] at this
      exact absurd this (by decide)
theorem cnt_0 {r : Nat → Int32} : ∀ n : Nat, cnt r n = 0 → ∀ k, k < n → r (4 + 3 * k) = nI 1
  | 0, _, k, hk => by omega
  | n + 1, h, k, hk => by
    unfold cnt at h
    by_cases e : r (4 + 3 * n) = nI 1
    · rw [if_pos e] at h
      by_cases q : k = n
      · rw [q]
        exact e
      · exact cnt_0 n (by omega) k (by omega)
    · rw [if_neg e] at h
      omega
theorem nlr_cnt {r : Nat → Int32} {n : Nat} (hn : n ≤ 40) (hl : LB r) : nlr r n = none ↔ cnt r n = 0 := by
  constructor
  · intro h
    have key : ∀ k, k < n → r (4 + 3 * k) = nI 1 := by
      intro k hk
      obtain ⟨a, ha, ea⟩ := hl k (by omega)
      unfold nlr nlB at h
      split at h
      · cases h
      · rename_i hh
        have h2 := fi_none hh k (by omega) (by omega)
        have h0 := fi_none h k (by omega) (by omega)
        dsimp only at h2 h0
        rw [ea] at h2 h0
        have a2 : a ≠ 2 := fun e => h2 (by rw [e])
        have a0 : a ≠ 0 := fun e => h0 (by rw [e])
        rw [ea, show a = 1 by omega]
    clear h
    induction n with
    | zero => rfl
    | succ n ih =>
      unfold cnt
      rw [if_pos (key n (by omega)), ih (by omega) fun k hk => key k (by omega)]
  · intro h
    have := cnt_0 n h
    unfold nlr
    exact nlB_none fun j _ hj => this j (by omega)
theorem it_1 {s0 s1 s2 g : Int32} {n : Nat} (r : Nat → Int32) (f : Nat) : it s0 s1 s2 g n r (f + 1) = it s0 s1 s2 g n (one s0 s1 s2 g n r) f := by
  rw [Nat.add_comm, it_add]
  rfl
/-- scans and leaves to scan -/
theorem it_cnt {s0 s1 s2 g : Int32} {n : Nat} (r : Nat → Int32) : ∀ f : Nat, ∃ k : Nat, k + cnt (it s0 s1 s2 g n r f) n = cnt r n ∧ it s0 s1 s2 g n r f 1 = r 1 + nI k
  | 0 => ⟨0, Nat.zero_add _, (i_a0 _).symm⟩
  | f + 1 => by
    obtain ⟨k, h1, h2⟩ := it_cnt (s0 := s0) (s1 := s1) (s2 := s2) (g := g) (n := n) r f
    show ∃ k : Nat, k + cnt (one s0 s1 s2 g n (it s0 s1 s2 g n r f)) n = cnt r n ∧ one s0 s1 s2 g n (it s0 s1 s2 g n r f) 1 = r 1 + nI k
    generalize it s0 s1 s2 g n r f = y at h1 h2
    unfold one
    cases hk : nlr y n with
    | none => exact ⟨k, h1, h2⟩
    | some q =>
      dsimp only
      split
      · exact ⟨k, h1, h2⟩
      · split
        · have := cnt_scR (s2 := s2) hk
          refine ⟨k + 1, by omega, ?_⟩
          rw [scR_0.2, h2, Int32.add_assoc, nI_add]
        · refine ⟨k, ?_, ?_⟩
          · rw [cnt_congr n fun j _ => upd_ne (by omega)]
            exact h1
          · rw [upd_ne (by omega)]
            exact h2
section SOF
variable {z : Nat → Int32} {c n a0 a1 b2 g : Nat}
theorem sof (e7 : z 7 = nI a0) (e8 : z 8 = nI a1) (e9 : z 9 = nI b2) (eg : z (95 + 4 * c + 1) = nI g) (ha0 : a0 ≤ 9) (ha1 : a1 ≤ 9) (hb : b2 ≤ 200) (hg : g ≤ 2) (hn : n ≤ 40) : ∀ (f j : Nat) (r : Nat → Int32) (s : Int32), RB r ∧ LB r → W_5scansOf_32 c z f j (r 2) (r 3) (nI (cnt r n)) (r 0) s = s + (it (nI a0) (nI a1) (nI b2) (nI g) n r f 1 - r 1)
  | 0, j, r, s, h => by
    show s = s + (r 1 - r 1)
    rw [Int32.sub_self, Int32.add_zero]
  | f + 1, j, r, s, h => by
    have h40 := cnt_le r n
    have hz : ∀ y : Int32, s = s + (y - y) := fun y => by rw [Int32.sub_self, Int32.add_zero]
    unfold W_5scansOf_32
    rw [it_1]
    by_cases h0 : cnt r n = 0
    · have hd : ¬ alive (nI g) n r := fun q => q.1 ((nlr_cnt hn h.2).mpr h0)
      rw [if_pos (le0 (by omega) h0), one_dead hd, it_dead hd]
      exact hz _
    · rw [if_neg (nle0 (by omega) h0), e7, e8, e9, eg]
      by_cases hgr : nI g < r 2
      · have hd : ¬ alive (nI g) n r := fun q => q.2 hgr
        rw [if_pos hgr, one_dead hd, it_dead hd]
        exact hz _
      · rw [if_neg hgr]
        have h1 := one_RB (n := n) ha0 ha1 hb hg h
        cases hk : nlr r n with
        | none => exact absurd ((nlr_cnt hn h.2).mp hk) h0
        | some k =>
          have eo : one (nI a0) (nI a1) (nI b2) (nI g) n r = if nI a0 + nI a1 * r 2 ≤ r 0 + nI 1 then scR (nI b2) k r else upd r 0 (r 0 + nI 1) := by
            unfold one
            rw [hk]
            dsimp only
            rw [if_neg hgr]
          by_cases hw : r 0 + nI 1 < nI a0 + nI a1 * r 2
          · rw [if_pos hw]
            rw [if_neg (Int32.not_le.mpr hw)] at eo
            rw [eo] at h1
            rw [eo]
            have ih := sof e7 e8 e9 eg ha0 ha1 hb hg hn f (j + 1) (upd r 0 (r 0 + nI 1)) s h1
            rw [upd_ne (show 2 ≠ 0 by omega), upd_ne (show 3 ≠ 0 by omega), upd_ne (show 1 ≠ 0 by omega), upd_eq, cnt_congr n (fun j _ => upd_ne (by omega))] at ih
            exact ih
          · rw [if_neg hw]
            rw [if_pos (Int32.not_lt.mp hw)] at eo
            rw [eo] at h1
            rw [eo]
            have hcs := cnt_scR (s2 := nI b2) hk
            have ih := sof e7 e8 e9 eg ha0 ha1 hb hg hn f (j + 1) (scR (nI b2) k r) (s + nI 1) h1
            have ec : nI (cnt r n) + (-1) = nI (cnt (scR (nI b2) k r) n) := by
              have e := nI_p1 (cnt (scR (nI b2) k r) n)
              rw [hcs, Int32.sub_eq_add_neg, show -nI 1 = (-1 : Int32) by decide] at e
              exact e
            have er : (s + nI 1) + (it (nI a0) (nI a1) (nI b2) (nI g) n (scR (nI b2) k r) f 1 - scR (nI b2) k r 1) = s + (it (nI a0) (nI a1) (nI b2) (nI g) n (scR (nI b2) k r) f 1 - r 1) := by
              rw [scR_0.2, Int32.sub_eq_add_neg, Int32.neg_add, Int32.sub_eq_add_neg, Int32.sub_eq_add_neg]
              generalize it (nI a0) (nI a1) (nI b2) (nI g) n (scR (nI b2) k r) f 1 = y
              have e1 : nI 1 + -nI 1 = 0 := by decide
              calc s + nI 1 + (y + (-r 1 + -nI 1)) = s + (y + -r 1) + (nI 1 + -nI 1) := by ac_rfl
                _ = _ := by rw [e1, Int32.add_zero]
            rw [er] at ih
            rw [ec, ← ih, scR_0.1, scR_23.1, scR_23.2]
            by_cases hs : r 3 + nI 1 < nI b2
            · rw [if_pos hs, if_pos hs, if_pos hs, if_pos hs, i_a0]
            · rw [if_neg hs, if_neg hs, if_neg hs, if_neg hs]
end SOF
