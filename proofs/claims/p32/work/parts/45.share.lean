/-! the share of open leaves -/
theorem open_le {v : Nat} {T : Nat → Nat → Int32} : ∀ j : Nat, ∃ a : Nat, a ≤ j ∧ L_0openLeaves_4 v T j = nI a
  | 0 => ⟨0, Nat.le_refl _, rfl⟩
  | j + 1 => by
    obtain ⟨a, h1, h2⟩ := open_le (v := v) (T := T) j
    show ∃ b : Nat, b ≤ j + 1 ∧ B_0openLeaves_4 v T j (L_0openLeaves_4 v T j) = nI b
    unfold B_0openLeaves_4
    rw [h2]
    split
    · exact ⟨a, by omega, rfl⟩
    · exact ⟨a + 1, by omega, by rw [← nI_add]⟩
theorem sums_T {T : Nat → Nat → Int32} {nv nc nr ne : Nat} (hT : TI T nv nc nr ne) : ∀ j : Nat, j ≤ nv → ∃ a b : Nat, a ≤ b ∧ b ≤ 40 * j ∧ L_0sumOverVolumes_4 9 T j = nI a ∧ L_0sumOverVolumes_4 2 T j = nI b
  | 0, _ => ⟨0, 0, Nat.le_refl _, by omega, rfl, rfl⟩
  | j + 1, h => by
    obtain ⟨a, b, h1, h2, h3, h4⟩ := sums_T hT j (by omega)
    have hl := hT.2.2.2.2.1 j (by have := hT.1.2; omega)
    obtain ⟨a2, g1, g2⟩ := open_le (v := j) (T := T) (lt T j)
    have e9 : F_0volumeFact j 9 T = L_0openLeaves_4 j T (lt T j) := by
      unfold F_0volumeFact
      rw [if_neg (by decide), if_neg (by decide), if_pos (by decide)]
    refine ⟨a + a2, b + lt T j, by omega, by have := hl.2; omega, ?_, ?_⟩
    · show L_0sumOverVolumes_4 9 T j + F_0volumeFact j 9 T = _
      rw [h3, e9, g2, nI_add]
    · show L_0sumOverVolumes_4 2 T j + F_0volumeFact j 2 T = _
      rw [h4, vf2 hl, nI_add]
theorem share_T {T : Nat → Nat → Int32} {nv nc nr ne : Nat} (hT : TI T nv nc nr ne) : SHd (F_0shareOfOpenLeaves nv T) ∧ (0 < L_0sumOverVolumes_4 2 T nv → vf_n64 (FP.ddiv (FP.i2d (L_0sumOverVolumes_4 9 T nv)) (FP.i2d (L_0sumOverVolumes_4 2 T nv)))) := by
  obtain ⟨a, b, h1, h2, h3, h4⟩ := sums_T hT nv (Nat.le_refl _)
  have h12 := hT.1.2
  have hq : 0 < L_0sumOverVolumes_4 2 T nv → SHd (FP.ddiv (FP.i2d (L_0sumOverVolumes_4 9 T nv)) (FP.i2d (L_0sumOverVolumes_4 2 T nv))) := by
    intro h
    rw [h4] at h
    rw [h3, h4]
    refine SHd_quot h1 ?_ (by omega)
    rcases Nat.eq_zero_or_pos b with rfl | h5
    · exact absurd h (by decide)
    · exact h5
  refine ⟨?_, fun h => SHd_vf (hq h)⟩
  unfold F_0shareOfOpenLeaves
  split
  · exact hq (by assumption)
  · exact Or.inl rfl
