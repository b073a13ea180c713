def F_5goesB (v : Nat) (r : Nat) (z : Nat → Int32) : Int32 := (wayZ z v r)
def F_5goesB_z (v : Nat) (r : Nat) (ne : Nat) (w : Nat) (z : Nat → Int32) : Nat → Int32 := (upd (upd (upd (upd (upd (upd (upd (upd (upd (upd (upd (upd (upd z ((95 + (4 * w)) + 2) (nI (0))) ((11 + (7 * v)) + 5) ((-1) + (nI (1)))) ((11 + (7 * v)) + 6) (wayZ z v r)) ((111 + (4 * r)) + 0) (z (11 + 7 * v + 0))) ((111 + (4 * r)) + 1) (wayZ z v r)) ((111 + (4 * r)) + 2) ((z ((111 + (4 * r)) + 2)) + (nI (1)))) ((111 + (4 * r)) + 3) ((z ((111 + (4 * r)) + 3)) + (wayZ z v r))) (123 + (5 * ne)) (z 3)) ((123 + (5 * ne)) + 1) (nI (r))) ((123 + (5 * ne)) + 2) (nI (v))) ((123 + (5 * ne)) + 3) (-1)) ((123 + (5 * ne)) + 4) (wayZ z v r)) 5 (nI ((ne + 1))))
def F_5goesA (v : Nat) (r : Nat) (z : Nat → Int32) : Int32 := (wayZ z v r)
def F_5goesA_z (v : Nat) (c : Nat) (r : Nat) (ne : Nat) (z : Nat → Int32) : Nat → Int32 := (upd (upd (upd (upd (upd (upd (upd (upd (upd (upd (upd (upd (upd z ((95 + (4 * c)) + 2) (nI (0))) ((11 + (7 * v)) + 5) (nI ((c + 1)))) ((11 + (7 * v)) + 6) (wayZ z v r)) ((111 + (4 * r)) + 0) (z (11 + 7 * v + 0))) ((111 + (4 * r)) + 1) (wayZ z v r)) ((111 + (4 * r)) + 2) ((z ((111 + (4 * r)) + 2)) + (nI (1)))) ((111 + (4 * r)) + 3) ((z ((111 + (4 * r)) + 3)) + (wayZ z v r))) (123 + (5 * ne)) (z 3)) ((123 + (5 * ne)) + 1) (nI (r))) ((123 + (5 * ne)) + 2) (nI (v))) ((123 + (5 * ne)) + 3) (nI (c))) ((123 + (5 * ne)) + 4) (wayZ z v r)) 5 (nI ((ne + 1))))
theorem idZ_0 {z : Nat → Int32} {nv nc nr ne c : Nat} (hZ : ZI z nv nc nr ne) (h : idZ z nv c = 0) : vo z (nI c) nv = some (voG z (nI c) nv) ∧ voG z (nI c) nv < nv ∧ nlO z (voG z (nI c) nv) (lv z (voG z (nI c) nv)) = some (nlG z (voG z (nI c) nv) (lv z (voG z (nI c) nv))) ∧ nlG z (voG z (nI c) nv) (lv z (voG z (nI c) nv)) < 40 := by
  have h40 := hZ.2.2.2.2
  cases hv : vo z (nI c) nv with
  | none =>
    unfold idZ at h
    rw [hv] at h
    dsimp only at h
    exact absurd h (by decide)
  | some v =>
    have e1 : voG z (nI c) nv = v := by unfold voG; rw [hv]; rfl
    have hvn := (vo_some hv).1
    rw [e1]
    unfold idZ at h
    rw [hv] at h
    dsimp only at h
    cases hk : nlO z v (lv z v) with
    | none =>
      rw [hk] at h
      split at h
      · exact absurd h (by decide)
      · split at h
        · exact absurd h (by decide)
        · rw [if_pos rfl] at h
          exact absurd h (by decide)
    | some k =>
      have e2 : nlG z v (lv z v) = k := by unfold nlG; rw [hk]; rfl
      rw [e2]
      have := nlB_some hk
      exact ⟨rfl, hvn, rfl, by have := (h40 v hvn).2; omega⟩
def F_5scans (c : Nat) (v : Nat) (z : Nat → Int32) : Int32 := if ((z 7) + ((z 8) * (z (11 + 7 * v + 3)))) ≤ ((z ((95 + (4 * c)) + 2)) + (nI (1))) then if ((z ((11 + (7 * v)) + 4)) + (nI (1))) < (z 9) then (nI (1)) else (nI (1)) else (nI (0))
theorem F_5scans_01 (c : Nat) (v : Nat) (z : Nat → Int32) : F_5scans c v z = nI 0 ∨ F_5scans c v z = nI 1 := by
  unfold F_5scans
  (repeat' split) <;> first | exact Or.inl rfl | exact Or.inr rfl | exact wi01 _ _ _
def F_5scans_z (c : Nat) (v : Nat) (k : Nat) (z : Nat → Int32) : Nat → Int32 := if ((z 7) + ((z 8) * (z (11 + 7 * v + 3)))) ≤ ((z ((95 + (4 * c)) + 2)) + (nI (1))) then if ((z ((11 + (7 * v)) + 4)) + (nI (1))) < (z 9) then (upd (upd (upd (upd (upd (upd z ((95 + (4 * c)) + 2) ((z ((95 + (4 * c)) + 2)) + (nI (1)))) ((95 + (4 * c)) + 2) (nI (0))) ((95 + (4 * c)) + 3) ((z ((95 + (4 * c)) + 3)) + (nI (1)))) (423 + (3 * ((40 * v) + k))) (nI (1))) ((423 + (3 * ((40 * v) + k))) + 1) ((z ((423 + (3 * ((40 * v) + k))) + 1)) + (nI (1)))) ((11 + (7 * v)) + 4) ((z ((11 + (7 * v)) + 4)) + (nI (1)))) else (upd (upd (upd (upd (upd (upd (upd (upd z ((95 + (4 * c)) + 2) ((z ((95 + (4 * c)) + 2)) + (nI (1)))) ((95 + (4 * c)) + 2) (nI (0))) ((95 + (4 * c)) + 3) ((z ((95 + (4 * c)) + 3)) + (nI (1)))) (423 + (3 * ((40 * v) + k))) (nI (1))) ((423 + (3 * ((40 * v) + k))) + 1) ((z ((423 + (3 * ((40 * v) + k))) + 1)) + (nI (1)))) ((11 + (7 * v)) + 4) ((z ((11 + (7 * v)) + 4)) + (nI (1)))) ((11 + (7 * v)) + 4) (nI (0))) ((11 + (7 * v)) + 3) ((z ((11 + (7 * v)) + 3)) + (nI (1)))) else (upd z ((95 + (4 * c)) + 2) ((z ((95 + (4 * c)) + 2)) + (nI (1))))
