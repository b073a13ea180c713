/-- n minutes -/
def mnN (nv nc nr : Nat) (z : Nat → Int32) : Nat → (Nat → Int32)
  | 0 => z
  | j + 1 => F_5minute_z nv nc nr (mnN nv nc nr z j)
theorem ZI_mnN {z : Nat → Int32} {nv nc nr ne : Nat} (hZ : ZI z nv nc nr ne) : ∀ j : Nat, ZI (mnN nv nc nr z j) nv nc nr ne
  | 0 => hZ
  | j + 1 => ZI_minute (ZI_mnN hZ j)
def B_5passedNow_13 (nv : Nat) (nc : Nat) (nr : Nat) (j13 : Nat) (y13_z : Nat → Int32) : (Nat → Int32) := (F_5minute_z nv nc nr y13_z)
def L_5passedNow_13 (nv : Nat) (nc : Nat) (nr : Nat) (z : Nat → Int32) : Nat → (Nat → Int32)
  | 0 => z
  | j + 1 => B_5passedNow_13 nv nc nr j (L_5passedNow_13 nv nc nr z  j)
theorem pN_mn (nv nc nr : Nat) (z : Nat → Int32) : ∀ j : Nat, L_5passedNow_13 nv nc nr z j = mnN nv nc nr z j
  | 0 => rfl
  | j + 1 => by
    show F_5minute_z nv nc nr (L_5passedNow_13 nv nc nr z j) = _
    rw [pN_mn nv nc nr z j]
    rfl
def F_5passedNow (m : Nat) (c : Int32) (nv : Nat) (nc : Nat) (nr : Nat) (z : Nat → Int32) : Int32 := ((L_5doneBy_4 c (L_5passedNow_13 nv nc nr z m) nc) - (L_5doneBy_4 c z nc))
def F_5passedNow_z (m : Nat) (nv : Nat) (nc : Nat) (nr : Nat) (z : Nat → Int32) (sa : Nat → Int32) : Nat → Int32 := (cpK (cpK z sa 1863) (L_5passedNow_13 nv nc nr z m) 1863)
def F_5passedNow_sa (z : Nat → Int32) (sa : Nat → Int32) : Nat → Int32 := (cpK z sa 1863)
def W_5doneNow_6 (nv : Nat) (nc : Nat) (nr : Nat) (z : Nat → Int32) (sa : Nat → Int32) : Nat → Nat → (Nat → Int32) → (Int32) × (Nat → Int32)
  | 0, j6, y6_z => if j6 ≤ 2000 then (nI (j6), cpK (cpK z sa 1863) y6_z 1863) else (-1, cpK (cpK z sa 1863) y6_z 1863)
  | f6 + 1, j6, y6_z => if (L_5isAny_4 nv y6_z nc) = 0 then if j6 ≤ 2000 then (nI (j6), cpK (cpK z sa 1863) y6_z 1863) else (-1, cpK (cpK z sa 1863) y6_z 1863) else W_5doneNow_6 nv nc nr z sa f6 (j6 + 1) (F_5minute_z nv nc nr y6_z)
def F_5doneNow (nv : Nat) (nc : Nat) (nr : Nat) (z : Nat → Int32) (sa : Nat → Int32) : Int32 := ((W_5doneNow_6 nv nc nr z sa 2001 0 z).1)
def F_5doneNow_z (nv : Nat) (nc : Nat) (nr : Nat) (z : Nat → Int32) (sa : Nat → Int32) : Nat → Int32 := ((W_5doneNow_6 nv nc nr z sa 2001 0 z).2)
def F_5doneNow_sa (z : Nat → Int32) (sa : Nat → Int32) : Nat → Int32 := (cpK z sa 1863)
def F_5mayHave (c : Nat) (v : Nat) (nv : Nat) (z : Nat → Int32) : Int32 := if (z (11 + 7 * v + 5)) = 0 then if (z (11 + 7 * v + 6)) = 0 then if (z (95 + 4 * c + 0)) < (z (11 + 7 * v + 1)) then (nI (0)) else if (z (95 + 4 * c + 1)) < (z (11 + 7 * v + 3)) then (nI (0)) else if (oI (vo z (nI (c)) nv)) = (-1) then (nI (1)) else (nI (0)) else if (z (95 + 4 * c + 0)) < (z (11 + 7 * v + 1)) then (nI (0)) else if (z (95 + 4 * c + 1)) < (z (11 + 7 * v + 3)) then (nI (0)) else (nI (0)) else if (z (95 + 4 * c + 0)) < (z (11 + 7 * v + 1)) then (nI (0)) else if (z (95 + 4 * c + 1)) < (z (11 + 7 * v + 3)) then (nI (0)) else (nI (0))
theorem F_5mayHave_01 (c : Nat) (v : Nat) (nv : Nat) (z : Nat → Int32) : F_5mayHave c v nv z = nI 0 ∨ F_5mayHave c v nv z = nI 1 := by
  unfold F_5mayHave
  (repeat' split) <;> first | exact Or.inl rfl | exact Or.inr rfl | exact wi01 _ _ _
def W_5scansOf_32 (c : Nat) (z : Nat → Int32) : Nat → Nat → (Int32) → (Int32) → (Int32) → (Int32) → (Int32) → (Int32)
  | 0, j32, x32_4, x32_5, x32_6, x32_7, x32_8 => x32_8
  | f32 + 1, j32, x32_4, x32_5, x32_6, x32_7, x32_8 => if x32_6 ≤ 0 then x32_8 else if (z (95 + 4 * c + 1)) < x32_4 then x32_8 else if (x32_7 + (nI (1))) < ((z 7) + ((z 8) * x32_4)) then W_5scansOf_32 c z f32 (j32 + 1) x32_4 x32_5 x32_6 (x32_7 + (nI (1))) x32_8 else if (x32_5 + (nI (1))) < (z 9) then if (x32_5 + (nI (1))) < (z 9) then W_5scansOf_32 c z f32 (j32 + 1) (x32_4 + (nI (0))) (x32_5 + (nI (1))) (x32_6 + (-1)) (nI (0)) (x32_8 + (nI (1))) else W_5scansOf_32 c z f32 (j32 + 1) (x32_4 + (nI (0))) (nI (0)) (x32_6 + (-1)) (nI (0)) (x32_8 + (nI (1))) else if (x32_5 + (nI (1))) < (z 9) then W_5scansOf_32 c z f32 (j32 + 1) (x32_4 + (nI (1))) (x32_5 + (nI (1))) (x32_6 + (-1)) (nI (0)) (x32_8 + (nI (1))) else W_5scansOf_32 c z f32 (j32 + 1) (x32_4 + (nI (1))) (nI (0)) (x32_6 + (-1)) (nI (0)) (x32_8 + (nI (1)))
def B_5layGains_9 (m : Nat) (nv : Nat) (nc : Nat) (z : Nat → Int32) (j2 : Nat) (j9 : Nat) (y9_ga : Nat → Int32) : (Nat → Int32) := if nc ≤ j2 then (upd y9_ga ((12 * j2) + j9) (-1)) else if nv ≤ j9 then (upd y9_ga ((12 * j2) + j9) (-1)) else if (F_5mayHave j2 j9 nv z) = 0 then (upd y9_ga ((12 * j2) + j9) (-1)) else (upd y9_ga ((12 * j2) + j9) (W_5scansOf_32 j2 z (m - 1) 0 (z (11 + 7 * j9 + 3)) (z (11 + 7 * j9 + 4)) ((nI ((lv z j9))) - (L_5leavesWith_5 j9 (nI (1)) z (lv z j9))) (nI (0)) (nI (0))))
def L_5layGains_9 (m : Nat) (nv : Nat) (nc : Nat) (z : Nat → Int32) (j2 : Nat) (y2_ga : Nat → Int32) : Nat → (Nat → Int32)
  | 0 => y2_ga
  | j + 1 => B_5layGains_9 m nv nc z j2 j (L_5layGains_9 m nv nc z j2 y2_ga  j)
def B_5layGains_2 (m : Nat) (nv : Nat) (nc : Nat) (z : Nat → Int32) (j2 : Nat) (y2_ga : Nat → Int32) : (Nat → Int32) := (L_5layGains_9 m nv nc z j2 y2_ga 12)
def L_5layGains_2 (m : Nat) (nv : Nat) (nc : Nat) (z : Nat → Int32) (ga : Nat → Int32) : Nat → (Nat → Int32)
  | 0 => ga
  | j + 1 => B_5layGains_2 m nv nc z j (L_5layGains_2 m nv nc z ga  j)
def F_5layGains_ga (m : Nat) (nv : Nat) (nc : Nat) (z : Nat → Int32) (ga : Nat → Int32) : Nat → Int32 := (L_5layGains_2 m nv nc z ga 4)
