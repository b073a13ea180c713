/-! GAINS, one by one and in their tables -/
theorem mayHave_iff {z : Nat → Int32} {nv c v : Nat} : F_5mayHave c v nv z = nI 1 ∧ (z (11 + 7 * v + 5) = 0 ∧ z (11 + 7 * v + 6) = 0 ∧ ¬ z (95 + 4 * c + 0) < z (11 + 7 * v + 1) ∧ ¬ z (95 + 4 * c + 1) < z (11 + 7 * v + 3) ∧ oI (vo z (nI c) nv) = -1) ∨ F_5mayHave c v nv z = 0 ∧ ¬ (z (11 + 7 * v + 5) = 0 ∧ z (11 + 7 * v + 6) = 0 ∧ ¬ z (95 + 4 * c + 0) < z (11 + 7 * v + 1) ∧ ¬ z (95 + 4 * c + 1) < z (11 + 7 * v + 3) ∧ oI (vo z (nI c) nv) = -1) := by
  unfold F_5mayHave
  by_cases h1 : z (11 + 7 * v + 5) = 0
  · rw [if_pos h1]
    by_cases h2 : z (11 + 7 * v + 6) = 0
    · rw [if_pos h2]
      by_cases h3 : z (95 + 4 * c + 0) < z (11 + 7 * v + 1)
      · rw [if_pos h3]
        exact Or.inr ⟨rfl, fun q => q.2.2.1 h3⟩
      · rw [if_neg h3]
        by_cases h4 : z (95 + 4 * c + 1) < z (11 + 7 * v + 3)
        · rw [if_pos h4]
          exact Or.inr ⟨rfl, fun q => q.2.2.2.1 h4⟩
        · rw [if_neg h4]
          by_cases h5 : oI (vo z (nI c) nv) = -1
          · rw [if_pos h5]
            exact Or.inl ⟨rfl, h1, h2, h3, h4, h5⟩
          · rw [if_neg h5]
            exact Or.inr ⟨rfl, fun q => h5 q.2.2.2.2⟩
    · rw [if_neg h2]
      refine Or.inr ⟨?_, fun q => h2 q.2.1⟩
      (repeat' split) <;> rfl
  · rw [if_neg h1]
    refine Or.inr ⟨?_, fun q => h1 q.1⟩
    (repeat' split) <;> rfl
theorem cnt_with {z : Nat → Int32} {c v : Nat} : ∀ n : Nat, n ≤ 40 → ∃ b : Nat, L_5leavesWith_5 v (nI 1) z n = nI b ∧ b + cnt (gZ z c v) n = n
  | 0, _ => ⟨0, rfl, rfl⟩
  | n + 1, h => by
    obtain ⟨b, h1, h2⟩ := cnt_with (c := c) n (by omega)
    have e : gZ z c v (4 + 3 * n) = z (423 + 3 * (40 * v + n) + 0) := by
      rw [gZ_leaf _ _ _ _ (by omega)]
      exact congrArg z (by omega)
    show ∃ b : Nat, B_5leavesWith_5 v (nI 1) z n (L_5leavesWith_5 v (nI 1) z n) = nI b ∧ b + (cnt (gZ z c v) n + if gZ z c v (4 + 3 * n) = nI 1 then 0 else 1) = n + 1
    unfold B_5leavesWith_5
    rw [e, h1]
    by_cases q : z (423 + 3 * (40 * v + n) + 0) = nI 1
    · rw [if_pos q, if_pos q]
      exact ⟨b + 1, nI_add b 1, by omega⟩
    · rw [if_neg q, if_neg q]
      exact ⟨b, i_a0 _, by omega⟩
section GAIN
variable {T : Nat → Nat → Int32} {z : Nat → Int32} {nv nc nr ne c v m : Nat}
theorem e_gain (h : RT T z nv nc) (w : WZ z nv nc nr ne) (hm : m ≤ 1000) : ∃ o : Option Nat, (∀ k, o = some k → k ≤ 40) ∧ F_2gainOf c v (nI m) nv nc T = nI (o.getD 0) ∧ (∀ y, B_5layGains_9 m nv nc z c v y = upd y (12 * c + v) (oI o)) ∧ TRF T (F_2gainOf_T c v (nI m) nv nc T) := by
  have h4 := w.nc.2
  have h12 := w.nv.2
  unfold F_2gainOf F_2gainOf_T B_5layGains_9
  by_cases h1 : nc ≤ c
  · exact ⟨none, fun k e => (by cases e), if_pos h1, fun y => if_pos h1, by rw [if_pos h1]; exact TRF.refl T⟩
  · by_cases h2 : nv ≤ v
    · exact ⟨none, fun k e => (by cases e), by rw [if_neg h1, if_pos h2]; rfl, fun y => by rw [if_neg h1, if_pos h2]; rfl, by rw [if_neg h1, if_pos h2]; exact TRF.refl T⟩
    · have hbox : F_0isInItsBox v T = if z (11 + 7 * v + 5) = 0 ∧ z (11 + 7 * v + 6) = 0 then nI 1 else nI 0 := by
        obtain ⟨a, ha, ea⟩ := (w.vol v (by omega)).2.2.2.1
        unfold F_0isInItsBox
        rw [h.pl v (by omega), h.vol v 6 (by omega) (by omega) (by omega), ea]
        by_cases q : a = 0
        · rw [if_pos ((pl_m1 (by omega)).mpr q)]
          have e0 := (eq0_nI (a := a) (by omega)).mpr q
          by_cases q2 : z (11 + 7 * v + 6) = 0
          · rw [if_pos q2, if_pos ⟨e0, q2⟩]
          · rw [if_neg q2, if_neg (fun p => q2 p.2)]
        · rw [if_neg (fun p => q ((pl_m1 (by omega)).mp p)), if_neg (fun p => q ((eq0_nI (by omega)).mp p.1))]
      simp only [if_neg h1, if_neg h2]
      rw [e_isFree h w (show c < nc by omega), hbox, e_large h (show c < 4 by omega) (show v < 12 by omega), e_gentle h (show c < 4 by omega) (show v < 12 by omega)]
      have n1 : ¬ nI 1 = (0 : Int32) := by decide
      have n0 : nI 0 = (0 : Int32) := rfl
      rcases mayHave_iff (z := z) (nv := nv) (c := c) (v := v) with ⟨e1, q1, q2, q3, q4, q5⟩ | ⟨e0, q0⟩
      · have q5' := (vo_m1 h12).mp q5
        have hl := (w.lv v (by omega)).2
        have hp := w.RB (c := c) (v := v) (by omega) (by omega)
        obtain ⟨k, k1, k2⟩ := it_cnt (s0 := z 7) (s1 := z 8) (s2 := z 9) (g := z (95 + 4 * c + 1)) (n := lv z v) (gZ z c v) (m - 1)
        have h40 := cnt_le (gZ z c v) (lv z v)
        have hk : (it (z 7) (z 8) (z 9) (z (95 + 4 * c + 1)) (lv z v) (gZ z c v) (m - 1)) 1 - gZ z c v 1 = nI k := by
          rw [k2, Int32.add_comm, Int32.add_sub_cancel]
        simp only [if_pos q5', if_pos (And.intro q1 q2), if_neg q3, if_neg q4, if_neg n1, e1]
        refine ⟨some k, fun k' e => by cases e; omega, ?_, fun y => ?_, ?_⟩
        · rw [sif h w (show c < nc by omega) (show v < nv by omega) (show m < 10000 by omega) (show 1 < 10000 by omega), hk]
          rfl
        · obtain ⟨b, b1, b2⟩ := cnt_with (z := z) (c := c) (v := v) (lv z v) hl
          obtain ⟨s0, hs01, hs0, es0⟩ := w.s0
          obtain ⟨s1, hs1, es1⟩ := w.s1
          obtain ⟨s2, hs21, hs2, es2⟩ := w.s2
          obtain ⟨g, hg, eg⟩ := (w.cra c (by omega)).1
          have ew := (w.cra c (by omega)).2.2 q5'
          have hs := sof (n := lv z v) es0 es1 es2 eg (by omega) hs1 hs2 hg hl (m - 1) 0 (gZ z c v) (nI 0) hp
          rw [← es0, ← es1, ← es2, ← eg, hk, nI_add, Nat.zero_add] at hs
          rw [b1, pk_sub (show b ≤ lv z v by omega), show lv z v - b = cnt (gZ z c v) (lv z v) by omega]
          have e2 : gZ z c v 0 = nI 0 := ew
          rw [e2] at hs
          exact congrArg (upd y (12 * c + v)) hs
        · exact TRF_try h w (show v < nv by omega) _
      · have hy : ∀ y : Nat → Int32, (if F_5mayHave c v nv z = 0 then upd y (12 * c + v) (-1) else upd y (12 * c + v) (W_5scansOf_32 c z (m - 1) 0 (z (11 + 7 * v + 3)) (z (11 + 7 * v + 4)) (nI (lv z v) - L_5leavesWith_5 v (nI 1) z (lv z v)) (nI 0) (nI 0))) = upd y (12 * c + v) (oI none) := fun y => if_pos e0
        refine ⟨none, fun k e => (by cases e), ?_, hy, ?_⟩
        · by_cases r5 : vo z (nI c) nv = none
          · by_cases r12 : z (11 + 7 * v + 5) = 0 ∧ z (11 + 7 * v + 6) = 0
            · by_cases r3 : z (95 + 4 * c + 0) < z (11 + 7 * v + 1)
              · simp only [if_pos r5, if_pos r12, if_pos r3, if_neg n1, if_pos n0]; rfl
              · by_cases r4 : z (95 + 4 * c + 1) < z (11 + 7 * v + 3)
                · simp only [if_pos r5, if_pos r12, if_neg r3, if_pos r4, if_neg n1, if_pos n0]; rfl
                · exact absurd ⟨r12.1, r12.2, r3, r4, (vo_m1 h12).mpr r5⟩ q0
            · simp only [if_pos r5, if_neg r12, if_neg n1, if_pos n0]; rfl
          · simp only [if_neg r5, if_pos n0]; rfl
        · by_cases r5 : vo z (nI c) nv = none
          · by_cases r12 : z (11 + 7 * v + 5) = 0 ∧ z (11 + 7 * v + 6) = 0
            · by_cases r3 : z (95 + 4 * c + 0) < z (11 + 7 * v + 1)
              · simp only [if_pos r5, if_pos r12, if_pos r3, if_neg n1, if_pos n0]; exact TRF.refl T
              · by_cases r4 : z (95 + 4 * c + 1) < z (11 + 7 * v + 3)
                · simp only [if_pos r5, if_pos r12, if_neg r3, if_pos r4, if_neg n1, if_pos n0]; exact TRF.refl T
                · exact absurd ⟨r12.1, r12.2, r3, r4, (vo_m1 h12).mpr r5⟩ q0
            · simp only [if_pos r5, if_neg r12, if_neg n1, if_pos n0]; exact TRF.refl T
          · simp only [if_neg r5, if_pos n0]; exact TRF.refl T
end GAIN
