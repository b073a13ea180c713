def voG (z : Nat → Int32) (c : Int32) (n : Nat) : Nat := (vo z c n).getD 0
theorem vo_get {z : Nat → Int32} {c : Int32} {n : Nat} (h : ¬ oI (vo z c n) = -1) : vo z c n = some (voG z c n) ∧ voG z c n < n := by
  obtain ⟨q, hq⟩ := oI_ne h
  have h1 : voG z c n = q := by unfold voG; rw [hq]; rfl
  rw [h1]
  exact ⟨hq, (vo_some hq).1⟩
def nlG (z : Nat → Int32) (v n : Nat) : Nat := (nlO z v n).getD 0
theorem nlO_get {z : Nat → Int32} {v n : Nat} (h : ¬ oI (nlO z v n) = -1) : nlO z v n = some (nlG z v n) ∧ nlG z v n < n := by
  obtain ⟨q, hq⟩ := oI_ne h
  have h1 : nlG z v n = q := by unfold nlG; rw [hq]; rfl
  rw [h1]
  have := nlB_some hq
  exact ⟨hq, by omega⟩
/-- NONE or a number below n -/
def QI (n : Nat) (x : Int32) : Prop := x = -1 ∨ ∃ q : Nat, q < n ∧ x = nI q
theorem QI_get {n : Nat} {x : Int32} (hn : n < 2147483648) (h : QI n x) (hx : ¬ x = -1) : x = nI x.toNatClampNeg ∧ x.toNatClampNeg < n := by
  rcases h with e | ⟨q, h1, rfl⟩
  · exact absurd e hx
  · rw [nI_clamp (by omega)]
    exact ⟨rfl, h1⟩
def B_5overAll_4 (w : Nat) (z : Nat → Int32) (j4 : Nat) (x4_2 : Int32) : (Int32) := (x4_2 + (F_5volumeNow j4 w z))
def L_5overAll_4 (w : Nat) (z : Nat → Int32) : Nat → (Int32)
  | 0 => nI (0)
  | j + 1 => B_5overAll_4 w z j (L_5overAll_4 w z  j)
def B_5free_4 (nv : Nat) (z : Nat → Int32) (j4 : Nat) (x4_1 : Int32) : (Int32) := if (oI (vo z (nI (j4)) nv)) = (-1) then (x4_1 + (nI (1))) else (x4_1 + (nI (0)))
def L_5free_4 (nv : Nat) (z : Nat → Int32) : Nat → (Int32)
  | 0 => nI (0)
  | j + 1 => B_5free_4 nv z j (L_5free_4 nv z  j)
def F_5cradleNow (c : Nat) (w : Nat) (nv : Nat) (z : Nat → Int32) : Int32 := if w = 0 then (z (95 + 4 * c + w)) else if w = 1 then (z (95 + 4 * c + w)) else if w = 2 then (oI (vo z (nI (c)) nv)) else if w = 3 then (z (95 + 4 * c + (w - 1))) else if w = 4 then (z (95 + 4 * c + (w - 1))) else (idZ z nv c)
def B_5doneBy_4 (c : Int32) (z : Nat → Int32) (j4 : Nat) (x4_2 : Int32) : (Int32) := if c = (-1) then (x4_2 + (z (95 + 4 * j4 + 3))) else if (nI (j4)) = c then (x4_2 + (z (95 + 4 * j4 + 3))) else (x4_2 + (nI (0)))
def L_5doneBy_4 (c : Int32) (z : Nat → Int32) : Nat → (Int32)
  | 0 => nI (0)
  | j + 1 => B_5doneBy_4 c z j (L_5doneBy_4 c z  j)
def B_5whereNow_5 (v : Int32) (m : Int32) (z : Nat → Int32) (j5 : Nat) (x5_3 : Int32) : (Int32) := if m < (z (123 + (5 * j5))) then x5_3 else if (z ((123 + (5 * j5)) + 2)) = v then (z ((123 + (5 * j5)) + 3)) else x5_3
def L_5whereNow_5 (v : Int32) (m : Int32) (z : Nat → Int32) : Nat → (Int32)
  | 0 => -1
  | j + 1 => B_5whereNow_5 v m z j (L_5whereNow_5 v m z  j)
def F_5counted (w : Nat) (nv : Nat) (nc : Nat) (z : Nat → Int32) (sv : Int32) : Int32 := if w = 6 then (L_5overAll_4 2 z nv) else if w = 7 then (L_5overAll_4 w z nv) else if w = 8 then (L_5overAll_4 w z nv) else if w = 9 then (L_5overAll_4 w z nv) else if w = 10 then (L_5overAll_4 11 z nv) else if w = 11 then (z 6) else if w = 12 then (L_5free_4 nv z nc) else if w = 13 then sv else (z w)
def B_5isAny_4 (nv : Nat) (z : Nat → Int32) (j4 : Nat) (x4_1 : Int32) : (Int32) := if x4_1 = 0 then if (oI (vo z (nI (j4)) nv)) = (-1) then (nI (0)) else if (z (95 + 4 * j4 + 1)) < (z (11 + 7 * (voG z (nI (j4)) nv) + 3)) then (nI (0)) else if (oI (nlO z (voG z (nI (j4)) nv) (lv z (voG z (nI (j4)) nv)))) = (-1) then (nI (0)) else (nI (1)) else (nI (1))
def L_5isAny_4 (nv : Nat) (z : Nat → Int32) : Nat → (Int32)
  | 0 => nI (0)
  | j + 1 => B_5isAny_4 nv z j (L_5isAny_4 nv z  j)
def B_5quickestNow_4 (v : Nat) (z : Nat → Int32) (j4 : Nat) (x4_2 : Int32) : (Int32) := if (z (111 + 4 * j4 + 1)) = 0 then if x4_2 = (-1) then (nI (j4)) else if (wayZ z v (x4_2.toNatClampNeg)) ≤ (wayZ z v j4) then (nI (x4_2.toNatClampNeg)) else (nI (j4)) else x4_2
def L_5quickestNow_4 (v : Nat) (z : Nat → Int32) : Nat → (Int32)
  | 0 => -1
  | j + 1 => B_5quickestNow_4 v z j (L_5quickestNow_4 v z  j)
