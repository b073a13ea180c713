theorem wiV_t {v n : Nat} (h : v < n) (hn : n < 2147483648) : wi (nI v) (nI 0) (nI n - nI 1) = nI 1 := by
  obtain ⟨m, rfl⟩ : ∃ m, n = m + 1 := ⟨n - 1, by omega⟩
  unfold wi
  rw [nI_p1, if_pos ⟨nI_le (Nat.zero_le _) (by omega), nI_le (by omega) (by omega)⟩]
  rfl
theorem wiV_f {x : Int32} {n : Nat} (hn : n < 2147483648) (h : ¬ ∃ v : Nat, v < n ∧ x = nI v) : wi x (nI 0) (nI n - nI 1) = nI 0 := by
  unfold wi
  rw [if_neg]
  · rfl
  · rintro ⟨h1, h2⟩
    have hx : ¬ x < 0 := fun q => by
      have h1' : (0 : Int32) ≤ x := h1
      rw [Int32.le_iff_toInt_le] at h1'
      rw [Int32.lt_iff_toInt_lt] at q
      omega
    obtain ⟨j, hj, rfl⟩ := nI_of hx
    refine h ⟨j, ?_, rfl⟩
    cases n with
    | zero =>
      exfalso
      have h3 : nI j ≤ -1 := h2
      rw [Int32.le_iff_toInt_le, nI_toInt hj] at h3
      have h4 : (-1 : Int32).toInt = -1 := by decide
      omega
    | succ m =>
      rw [nI_p1, nI_leI hj (by omega)] at h2
      omega
/-- the minutes of a way -/
def wayZ (z : Nat → Int32) (v c : Nat) : Int32 := z 10 * (if z (111 + 4 * c + 0) - z (11 + 7 * v + 0) < 0 then -(z (111 + 4 * c + 0) - z (11 + 7 * v + 0)) else z (111 + 4 * c + 0) - z (11 + 7 * v + 0)) + nI 1
def idZ (z : Nat → Int32) (nv c : Nat) : Int32 := match vo z (nI c) nv with
  | none => nI 1
  | some v => if 0 < z (11 + 7 * v + 6) then nI 2 else if z (95 + 4 * c + 1) < z (11 + 7 * v + 3) then nI 3 else if nlO z v (lv z v) = none then nI 4 else nI 0
/-- why a volume can't be brought -/
def rsZ (z : Nat → Int32) (nv ne v c r : Nat) : Int32 := if 0 < z (11 + 7 * v + 5) then nI 1 else if 0 < z (11 + 7 * v + 6) then nI 2 else if vo z (nI c) nv ≠ none then nI 3 else if z (95 + 4 * c + 0) < z (11 + 7 * v + 1) then nI 4 else if z (95 + 4 * c + 1) < z (11 + 7 * v + 3) then nI 5 else if nlO z v (lv z v) = none then nI 6 else if 0 < z (111 + 4 * r + 1) then nI 7 else if ne = 60 then nI 8 else nI 0
theorem vo_iff {z : Nat → Int32} {c : Int32} {n : Nat} (h : n ≤ 12) : oI (vo z c n) = -1 ↔ vo z c n = none := oI_iff fun q hq => by have := vo_some hq; omega
/-- the first k places of g are those of f -/
def cpK (f g : Nat → Int32) (n : Nat) : Nat → Int32 := fun i => if i < n then f i else g i
theorem cpK_0 (f g : Nat → Int32) : cpK f g 0 = g := by funext i; simp [cpK]
theorem cpK_s (f g : Nat → Int32) (n : Nat) : upd (cpK f g n) n (f n) = cpK f g (n + 1) := by
  funext i
  unfold upd cpK
  by_cases h : i = n
  · subst h; simp
  · by_cases h2 : i < n
    · simp [h, h2, Nat.lt_succ_of_lt h2]
    · have : ¬ i < n + 1 := by omega
      simp [h, h2, this]
