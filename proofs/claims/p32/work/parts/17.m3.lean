theorem AR.tswN {E : AE} {M : AM} {d pc : Nat} {L : AL} {st : List Value} {h : AH} {o : AR0} {h' : AH} {mc ms : Nat} {dflt lo hi : Int} {offs : Array Int} {len : Nat} {x : Int32} {w : Nat} {off : Int} {tgt : Nat} (k : Nat) (hd : decode M.bytes pc = .ok (.tableswitch dflt lo hi offs, len)) (hx : x = nI w) (hw : w = k) (hk : k < 2147483648) (j : Nat) (hj1 : (k : Int) = lo + j) (hj : j < (hi + 1 - lo).toNat) (ho : offs[j]? = some off) (ht : (pc : Int) + off = (tgt : Int)) (kk : AR E M d tgt L st h o h' mc ms) : AR E M d pc L (.int x :: st) h o h' mc ms :=
  AR.tsw hd j (by rw [hx, hw, nI_toInt hk]; exact hj1) hj ho ht kk
theorem AR.tswdN {E : AE} {M : AM} {d pc : Nat} {L : AL} {st : List Value} {h : AH} {o : AR0} {h' : AH} {mc ms : Nat} {dflt lo hi : Int} {offs : Array Int} {len : Nat} {x : Int32} {w : Nat} {tgt : Nat} (hd : decode M.bytes pc = .ok (.tableswitch dflt lo hi offs, len)) (hx : x = nI w) (hw : w < 2147483648) (hb : (w : Int) < lo ∨ hi < (w : Int)) (ht : (pc : Int) + dflt = (tgt : Int)) (kk : AR E M d tgt L st h o h' mc ms) : AR E M d pc L (.int x :: st) h o h' mc ms :=
  AR.tswd hd (by rw [hx, nI_toInt hw]; exact hb) ht kk
/-- what the walks of the reference need of its cells -/
def ZI (z : Nat → Int32) (nv nc nr ne : Nat) : Prop := (z 0 = nI nv ∧ nv ≤ 12) ∧ (z 1 = nI nc ∧ nc ≤ 4) ∧ (z 2 = nI nr ∧ nr ≤ 3) ∧ (z 5 = nI ne ∧ ne ≤ 60) ∧ LV z nv
def F_5isOpen (v : Nat) (k : Nat) (z : Nat → Int32) : Int32 := if (z (423 + 3 * (40 * v + k) + 0)) = (nI (1)) then if (z 4) < (z (423 + 3 * (40 * v + k) + 2)) then (nI (0)) else (nI (1)) else (nI (0))
theorem F_5isOpen_01 (v : Nat) (k : Nat) (z : Nat → Int32) : F_5isOpen v k z = nI 0 ∨ F_5isOpen v k z = nI 1 := by
  unfold F_5isOpen
  (repeat' split) <;> first | exact Or.inl rfl | exact Or.inr rfl | exact wi01 _ _ _
def B_5open_4 (v : Nat) (z : Nat → Int32) (j4 : Nat) (x4_2 : Int32) : (Int32) := if (F_5isOpen v j4 z) = 0 then (x4_2 + (nI (0))) else (x4_2 + (nI (1)))
def L_5open_4 (v : Nat) (z : Nat → Int32) : Nat → (Int32)
  | 0 => nI (0)
  | j + 1 => B_5open_4 v z j (L_5open_4 v z  j)
def B_5leavesWith_5 (v : Nat) (how : Int32) (z : Nat → Int32) (j5 : Nat) (x5_3 : Int32) : (Int32) := if (z (423 + 3 * (40 * v + j5) + 0)) = how then (x5_3 + (nI (1))) else (x5_3 + (nI (0)))
def L_5leavesWith_5 (v : Nat) (how : Int32) (z : Nat → Int32) : Nat → (Int32)
  | 0 => nI (0)
  | j + 1 => B_5leavesWith_5 v how z j (L_5leavesWith_5 v how z  j)
def B_5scanned_4 (v : Nat) (z : Nat → Int32) (j4 : Nat) (x4_2 : Int32) : (Int32) := (x4_2 + (z (423 + 3 * (40 * v + j4) + 1)))
def L_5scanned_4 (v : Nat) (z : Nat → Int32) : Nat → (Int32)
  | 0 => nI (0)
  | j + 1 => B_5scanned_4 v z j (L_5scanned_4 v z  j)
def B_5barred_4 (v : Nat) (z : Nat → Int32) (j4 : Nat) (x4_2 : Int32) : (Int32) := if (z (423 + 3 * (40 * v + j4) + 2)) = 0 then (x4_2 + (nI (0))) else (x4_2 + (nI (1)))
def L_5barred_4 (v : Nat) (z : Nat → Int32) : Nat → (Int32)
  | 0 => nI (0)
  | j + 1 => B_5barred_4 v z j (L_5barred_4 v z  j)
def F_5volumeNow (v : Nat) (w : Nat) (z : Nat → Int32) : Int32 := if w = 5 then ((z (11 + 7 * v + 5)) - (nI (1))) else if w = 6 then (z (11 + 7 * v + w)) else if w = 7 then (L_5leavesWith_5 v (nI (1)) z (lv z v)) else if w = 8 then (L_5leavesWith_5 v (nI (2)) z (lv z v)) else if w = 9 then (L_5open_4 v z (lv z v)) else if w = 10 then (oI (nlO z v (lv z v))) else if w = 11 then (L_5scanned_4 v z (lv z v)) else (z (11 + 7 * v + w))
def F_5leafNow (v : Nat) (k : Nat) (w : Nat) (z : Nat → Int32) : Int32 := if 3 ≤ w then if (F_5isOpen v k z) = 0 then (nI (0)) else (nI (1)) else (z (423 + 3 * (40 * v + k) + w))
