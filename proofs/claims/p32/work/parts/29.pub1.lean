theorem wiN_t {k a b : Nat} (h1 : a ≤ k) (h2 : k ≤ b) (hb : b < 2147483648) : wi (nI k) (nI a) (nI b) = nI 1 := by
  unfold wi
  rw [if_pos ⟨nI_le h1 (by omega), nI_le h2 hb⟩]
  rfl
theorem bi_0 {p : Prop} [Decidable p] (h : bi p = 0) : ¬ p := by
  intro hp
  unfold bi at h
  rw [if_pos hp] at h
  exact absurd h (by decide)
theorem rsZ_ne {z : Nat → Int32} {nv ne v c r : Nat} (h : rsZ z nv ne v c r = 0) : ¬ ne = 60 := by
  intro h1
  unfold rsZ at h
  rw [if_pos h1] at h
  (repeat' split at h) <;> exact absurd h (by decide)
def F_5addVolume (b0 : Int32) (b1 : Int32) (b2 : Int32) (b3 : Int32) (nv : Nat) : Int32 := if (wi b0 (nI (0)) (nI (19))) = 0 then (nI (0)) else if (wi b1 (nI (1)) (nI (3))) = 0 then (nI (0)) else if (wi b2 (nI (1)) (nI (40))) = 0 then (nI (0)) else if (wi b3 (nI (0)) (nI (3))) = 0 then (nI (0)) else if nv = 12 then (nI (0)) else ((nI ((nv + 1))) - (nI (1)))
def F_5addVolume_z (b0 : Int32) (b1 : Int32) (b2 : Int32) (b3 : Int32) (nv : Nat) (z : Nat → Int32) : Nat → Int32 := if (wi b0 (nI (0)) (nI (19))) = 0 then z else if (wi b1 (nI (1)) (nI (3))) = 0 then z else if (wi b2 (nI (1)) (nI (40))) = 0 then z else if (wi b3 (nI (0)) (nI (3))) = 0 then z else if nv = 12 then z else (upd (upd (upd (upd (upd z ((11 + (7 * nv)) + 0) b0) ((11 + (7 * nv)) + 1) b1) ((11 + (7 * nv)) + 2) b2) ((11 + (7 * nv)) + 3) b3) 0 (nI ((nv + 1))))
def F_5addVolume_ro (b0 : Int32) (b1 : Int32) (b2 : Int32) (b3 : Int32) (nv : Nat) (s : Nat) (z : Nat → Int32) (ro : Nat → Int32) : Nat → Int32 := if (wi b0 (nI (0)) (nI (19))) = 0 then ro else if (wi b1 (nI (1)) (nI (3))) = 0 then ro else if (wi b2 (nI (1)) (nI (40))) = 0 then ro else if (wi b3 (nI (0)) (nI (3))) = 0 then ro else if nv = 12 then ro else (svR z ro s)
def F_5addVolume_sv (b0 : Int32) (b1 : Int32) (b2 : Int32) (b3 : Int32) (nv : Nat) (s : Nat) (sv : Int32) : Int32 := if (wi b0 (nI (0)) (nI (19))) = 0 then sv else if (wi b1 (nI (1)) (nI (3))) = 0 then sv else if (wi b2 (nI (1)) (nI (40))) = 0 then sv else if (wi b3 (nI (0)) (nI (3))) = 0 then sv else if nv = 12 then sv else (nI (svN s))
def F_5addVolume_th (b0 : Int32) (b1 : Int32) (b2 : Int32) (b3 : Int32) (nv : Nat) : Int32 := if (wi b0 (nI (0)) (nI (19))) = 0 then (nI (1)) else if (wi b1 (nI (1)) (nI (3))) = 0 then (nI (1)) else if (wi b2 (nI (1)) (nI (40))) = 0 then (nI (1)) else if (wi b3 (nI (0)) (nI (3))) = 0 then (nI (1)) else if nv = 12 then (nI (2)) else (nI (0))
def F_5addCradle (b0 : Int32) (b1 : Int32) (nc : Nat) : Int32 := if (wi b0 (nI (1)) (nI (3))) = 0 then (nI (0)) else if (wi b1 (nI (0)) (nI (2))) = 0 then (nI (0)) else if nc = 4 then (nI (0)) else ((nI ((nc + 1))) - (nI (1)))
def F_5addCradle_z (b0 : Int32) (b1 : Int32) (nc : Nat) (z : Nat → Int32) : Nat → Int32 := if (wi b0 (nI (1)) (nI (3))) = 0 then z else if (wi b1 (nI (0)) (nI (2))) = 0 then z else if nc = 4 then z else (upd (upd (upd z ((95 + (4 * nc)) + 0) b0) ((95 + (4 * nc)) + 1) b1) 1 (nI ((nc + 1))))
def F_5addCradle_ro (b0 : Int32) (b1 : Int32) (nc : Nat) (s : Nat) (z : Nat → Int32) (ro : Nat → Int32) : Nat → Int32 := if (wi b0 (nI (1)) (nI (3))) = 0 then ro else if (wi b1 (nI (0)) (nI (2))) = 0 then ro else if nc = 4 then ro else (svR z ro s)
def F_5addCradle_sv (b0 : Int32) (b1 : Int32) (nc : Nat) (s : Nat) (sv : Int32) : Int32 := if (wi b0 (nI (1)) (nI (3))) = 0 then sv else if (wi b1 (nI (0)) (nI (2))) = 0 then sv else if nc = 4 then sv else (nI (svN s))
def F_5addCradle_th (b0 : Int32) (b1 : Int32) (nc : Nat) : Int32 := if (wi b0 (nI (1)) (nI (3))) = 0 then (nI (1)) else if (wi b1 (nI (0)) (nI (2))) = 0 then (nI (1)) else if nc = 4 then (nI (2)) else (nI (0))
def F_5addCarrier (nr : Nat) : Int32 := if nr = 3 then (nI (0)) else ((nI ((nr + 1))) - (nI (1)))
def F_5addCarrier_z (nr : Nat) (z : Nat → Int32) : Nat → Int32 := if nr = 3 then z else (upd z 2 (nI ((nr + 1))))
def F_5addCarrier_ro (nr : Nat) (s : Nat) (z : Nat → Int32) (ro : Nat → Int32) : Nat → Int32 := if nr = 3 then ro else (svR z ro s)
def F_5addCarrier_sv (nr : Nat) (s : Nat) (sv : Int32) : Int32 := if nr = 3 then sv else (nI (svN s))
def F_5addCarrier_th (nr : Nat) : Int32 := if nr = 3 then (nI (1)) else (nI (0))
def F_5setA : Int32 := (nI (0))
theorem F_5setA_01 : F_5setA  = nI 0 ∨ F_5setA  = nI 1 := by
  unfold F_5setA
  (repeat' split) <;> first | exact Or.inl rfl | exact Or.inr rfl | exact wi01 _ _ _
def F_5setA_th : Int32 := (nI (1))
def F_5set (k : Nat) (v : Int32) (z : Nat → Int32) : Int32 := if k = 0 then if (wi v (nI (1)) (nI (9))) = 0 then (nI (0)) else (z (7 + k)) else if k = 1 then if (wi v (nI (0)) (nI (9))) = 0 then (nI (0)) else (z (7 + k)) else if k = 2 then if (wi v (nI (1)) (nI (200))) = 0 then (nI (0)) else (z (7 + k)) else if (wi v (nI (0)) (nI (5))) = 0 then (nI (0)) else (z (7 + k))
def F_5set_z (k : Nat) (v : Int32) (z : Nat → Int32) : Nat → Int32 := if k = 0 then if (wi v (nI (1)) (nI (9))) = 0 then z else (upd z (7 + k) v) else if k = 1 then if (wi v (nI (0)) (nI (9))) = 0 then z else (upd z (7 + k) v) else if k = 2 then if (wi v (nI (1)) (nI (200))) = 0 then z else (upd z (7 + k) v) else if (wi v (nI (0)) (nI (5))) = 0 then z else (upd z (7 + k) v)
def F_5set_ro (k : Nat) (v : Int32) (s : Nat) (z : Nat → Int32) (ro : Nat → Int32) : Nat → Int32 := if k = 0 then if (wi v (nI (1)) (nI (9))) = 0 then ro else (svR z ro s) else if k = 1 then if (wi v (nI (0)) (nI (9))) = 0 then ro else (svR z ro s) else if k = 2 then if (wi v (nI (1)) (nI (200))) = 0 then ro else (svR z ro s) else if (wi v (nI (0)) (nI (5))) = 0 then ro else (svR z ro s)
def F_5set_sv (k : Nat) (v : Int32) (s : Nat) (sv : Int32) : Int32 := if k = 0 then if (wi v (nI (1)) (nI (9))) = 0 then sv else (nI (svN s)) else if k = 1 then if (wi v (nI (0)) (nI (9))) = 0 then sv else (nI (svN s)) else if k = 2 then if (wi v (nI (1)) (nI (200))) = 0 then sv else (nI (svN s)) else if (wi v (nI (0)) (nI (5))) = 0 then sv else (nI (svN s))
def F_5set_th (k : Nat) (v : Int32) : Int32 := if k = 0 then if (wi v (nI (1)) (nI (9))) = 0 then (nI (2)) else (nI (0)) else if k = 1 then if (wi v (nI (0)) (nI (9))) = 0 then (nI (2)) else (nI (0)) else if k = 2 then if (wi v (nI (1)) (nI (200))) = 0 then (nI (2)) else (nI (0)) else if (wi v (nI (0)) (nI (5))) = 0 then (nI (2)) else (nI (0))
def F_5setYear (y : Int32) (z : Nat → Int32) : Int32 := if (wi y (nI (1800)) (nI (2199))) = 0 then (nI (0)) else (z 4)
def F_5setYear_z (y : Int32) (z : Nat → Int32) : Nat → Int32 := if (wi y (nI (1800)) (nI (2199))) = 0 then z else (upd z 4 y)
def F_5setYear_ro (y : Int32) (s : Nat) (z : Nat → Int32) (ro : Nat → Int32) : Nat → Int32 := if (wi y (nI (1800)) (nI (2199))) = 0 then ro else (svR z ro s)
def F_5setYear_sv (y : Int32) (s : Nat) (sv : Int32) : Int32 := if (wi y (nI (1800)) (nI (2199))) = 0 then sv else (nI (svN s))
def F_5setYear_th (y : Int32) : Int32 := if (wi y (nI (1800)) (nI (2199))) = 0 then (nI (1)) else (nI (0))
def F_5bringA : Int32 := (nI (0))
theorem F_5bringA_01 : F_5bringA  = nI 0 ∨ F_5bringA  = nI 1 := by
  unfold F_5bringA
  (repeat' split) <;> first | exact Or.inl rfl | exact Or.inr rfl | exact wi01 _ _ _
def F_5bringA_th : Int32 := (nI (1))
def F_5bringB : Int32 := (nI (0))
theorem F_5bringB_01 : F_5bringB  = nI 0 ∨ F_5bringB  = nI 1 := by
  unfold F_5bringB
  (repeat' split) <;> first | exact Or.inl rfl | exact Or.inr rfl | exact wi01 _ _ _
def F_5bringB_th : Int32 := (nI (1))
def F_5bringC : Int32 := (nI (0))
theorem F_5bringC_01 : F_5bringC  = nI 0 ∨ F_5bringC  = nI 1 := by
  unfold F_5bringC
  (repeat' split) <;> first | exact Or.inl rfl | exact Or.inr rfl | exact wi01 _ _ _
def F_5bringC_th : Int32 := (nI (1))
def F_5bring (v : Nat) (c : Nat) (r : Nat) (nv : Nat) (ne : Nat) (z : Nat → Int32) : Int32 := if (rsZ z nv ne v c r) = 0 then (F_5goesA v r z) else (nI (0))
def F_5bring_z (v : Nat) (c : Nat) (r : Nat) (nv : Nat) (ne : Nat) (z : Nat → Int32) : Nat → Int32 := if (rsZ z nv ne v c r) = 0 then (F_5goesA_z v c r ne z) else z
def F_5bring_ro (v : Nat) (c : Nat) (r : Nat) (nv : Nat) (ne : Nat) (s : Nat) (z : Nat → Int32) (ro : Nat → Int32) : Nat → Int32 := if (rsZ z nv ne v c r) = 0 then (svR z ro s) else ro
def F_5bring_sv (v : Nat) (c : Nat) (r : Nat) (nv : Nat) (ne : Nat) (s : Nat) (z : Nat → Int32) (sv : Int32) : Int32 := if (rsZ z nv ne v c r) = 0 then (nI (svN s)) else sv
def F_5bring_th (v : Nat) (c : Nat) (r : Nat) (nv : Nat) (ne : Nat) (z : Nat → Int32) : Int32 := if (rsZ z nv ne v c r) = 0 then (nI (0)) else (nI (2))
def F_5whyNotA : Int32 := (nI (0))
theorem F_5whyNotA_01 : F_5whyNotA  = nI 0 ∨ F_5whyNotA  = nI 1 := by
  unfold F_5whyNotA
  (repeat' split) <;> first | exact Or.inl rfl | exact Or.inr rfl | exact wi01 _ _ _
def F_5whyNotA_th : Int32 := (nI (1))
def F_5whyNotB : Int32 := (nI (0))
theorem F_5whyNotB_01 : F_5whyNotB  = nI 0 ∨ F_5whyNotB  = nI 1 := by
  unfold F_5whyNotB
  (repeat' split) <;> first | exact Or.inl rfl | exact Or.inr rfl | exact wi01 _ _ _
def F_5whyNotB_th : Int32 := (nI (1))
def F_5whyNotC : Int32 := (nI (0))
theorem F_5whyNotC_01 : F_5whyNotC  = nI 0 ∨ F_5whyNotC  = nI 1 := by
  unfold F_5whyNotC
  (repeat' split) <;> first | exact Or.inl rfl | exact Or.inr rfl | exact wi01 _ _ _
def F_5whyNotC_th : Int32 := (nI (1))
def F_5whyNot (v : Nat) (c : Nat) (r : Nat) (nv : Nat) (ne : Nat) (z : Nat → Int32) : Int32 := (rsZ z nv ne v c r)
def F_5whyNot_th : Int32 := (nI (0))
def F_5takeBackA : Int32 := (nI (0))
theorem F_5takeBackA_01 : F_5takeBackA  = nI 0 ∨ F_5takeBackA  = nI 1 := by
  unfold F_5takeBackA
  (repeat' split) <;> first | exact Or.inl rfl | exact Or.inr rfl | exact wi01 _ _ _
def F_5takeBackA_th : Int32 := (nI (1))
def F_5takeBackB : Int32 := (nI (0))
theorem F_5takeBackB_01 : F_5takeBackB  = nI 0 ∨ F_5takeBackB  = nI 1 := by
  unfold F_5takeBackB
  (repeat' split) <;> first | exact Or.inl rfl | exact Or.inr rfl | exact wi01 _ _ _
def F_5takeBackB_th : Int32 := (nI (1))
def F_5takeBackC : Int32 := (nI (0))
theorem F_5takeBackC_01 : F_5takeBackC  = nI 0 ∨ F_5takeBackC  = nI 1 := by
  unfold F_5takeBackC
  (repeat' split) <;> first | exact Or.inl rfl | exact Or.inr rfl | exact wi01 _ _ _
def F_5takeBackC_th : Int32 := (nI (2))
def F_5takeBack (v : Nat) (r : Nat) (ne : Nat) (z : Nat → Int32) : Int32 := if 0 < (z (111 + 4 * r + 1)) then (nI (0)) else if (bi (ne = 60)) = 0 then (F_5goesB v r z) else (nI (0))
def F_5takeBack_z (v : Nat) (r : Nat) (ne : Nat) (w : Nat) (z : Nat → Int32) : Nat → Int32 := if 0 < (z (111 + 4 * r + 1)) then z else if (bi (ne = 60)) = 0 then (F_5goesB_z v r ne w z) else z
def F_5takeBack_ro (r : Nat) (ne : Nat) (s : Nat) (z : Nat → Int32) (ro : Nat → Int32) : Nat → Int32 := if 0 < (z (111 + 4 * r + 1)) then ro else if (bi (ne = 60)) = 0 then (svR z ro s) else ro
def F_5takeBack_sv (r : Nat) (ne : Nat) (s : Nat) (z : Nat → Int32) (sv : Int32) : Int32 := if 0 < (z (111 + 4 * r + 1)) then sv else if (bi (ne = 60)) = 0 then (nI (svN s)) else sv
def F_5takeBack_th (r : Nat) (ne : Nat) (z : Nat → Int32) : Int32 := if 0 < (z (111 + 4 * r + 1)) then (nI (2)) else if (bi (ne = 60)) = 0 then (nI (0)) else (nI (2))
