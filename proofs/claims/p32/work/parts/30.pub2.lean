def F_5passA : Int32 := (nI (0))
theorem F_5passA_01 : F_5passA  = nI 0 ∨ F_5passA  = nI 1 := by
  unfold F_5passA
  (repeat' split) <;> first | exact Or.inl rfl | exact Or.inr rfl | exact wi01 _ _ _
def F_5passA_th : Int32 := (nI (1))
def B_5pass_50 (nv : Nat) (nc : Nat) (nr : Nat) (j50 : Nat) (x50_2 : Int32) (y50_z : Nat → Int32) : (Int32) × (Nat → Int32) := (x50_2 + (F_5minute nv nc y50_z), F_5minute_z nv nc nr y50_z)
def L_5pass_50 (nv : Nat) (nc : Nat) (nr : Nat) (z : Nat → Int32) : Nat → (Int32) × (Nat → Int32)
  | 0 => (nI (0), z)
  | j + 1 => B_5pass_50 nv nc nr j ((L_5pass_50 nv nc nr z  j).1) ((L_5pass_50 nv nc nr z  j).2)
theorem ps_mn (nv nc nr : Nat) (z : Nat → Int32) : ∀ j : Nat, (L_5pass_50 nv nc nr z j).2 = mnN nv nc nr z j
  | 0 => rfl
  | j + 1 => by
    show F_5minute_z nv nc nr (L_5pass_50 nv nc nr z j).2 = _
    rw [ps_mn nv nc nr z j]
    rfl
def F_5pass (m : Nat) (nv : Nat) (nc : Nat) (nr : Nat) (z : Nat → Int32) : Int32 := if ((z 3) + (nI (m))) ≤ (nI (20000)) then ((L_5pass_50 nv nc nr z m).1) else (nI (0))
def F_5pass_z (m : Nat) (nv : Nat) (nc : Nat) (nr : Nat) (z : Nat → Int32) : Nat → Int32 := if ((z 3) + (nI (m))) ≤ (nI (20000)) then ((L_5pass_50 nv nc nr z m).2) else z
def F_5pass_ro (m : Nat) (s : Nat) (z : Nat → Int32) (ro : Nat → Int32) : Nat → Int32 := if ((z 3) + (nI (m))) ≤ (nI (20000)) then (svR z ro s) else ro
def F_5pass_sv (m : Nat) (s : Nat) (z : Nat → Int32) (sv : Int32) : Int32 := if ((z 3) + (nI (m))) ≤ (nI (20000)) then (nI (svN s)) else sv
def F_5pass_th (m : Nat) (z : Nat → Int32) : Int32 := if ((z 3) + (nI (m))) ≤ (nI (20000)) then (nI (0)) else (nI (2))
def F_5rejectA : Int32 := (nI (0))
theorem F_5rejectA_01 : F_5rejectA  = nI 0 ∨ F_5rejectA  = nI 1 := by
  unfold F_5rejectA
  (repeat' split) <;> first | exact Or.inl rfl | exact Or.inr rfl | exact wi01 _ _ _
def F_5rejectA_th : Int32 := (nI (1))
def F_5rejectB : Int32 := (nI (0))
theorem F_5rejectB_01 : F_5rejectB  = nI 0 ∨ F_5rejectB  = nI 1 := by
  unfold F_5rejectB
  (repeat' split) <;> first | exact Or.inl rfl | exact Or.inr rfl | exact wi01 _ _ _
def F_5rejectB_th : Int32 := (nI (1))
def F_5reject (v : Nat) (k : Nat) (z : Nat → Int32) : Int32 := if (z (423 + 3 * (40 * v + k) + 0)) = (nI (1)) then (L_5leavesWith_5 v (nI (2)) (upd (upd z (423 + (3 * ((40 * v) + k))) (nI (2))) 6 ((z 6) + (nI (1)))) (lv (upd (upd z (423 + (3 * ((40 * v) + k))) (nI (2))) 6 ((z 6) + (nI (1)))) v)) else (nI (0))
def F_5reject_z (v : Nat) (k : Nat) (z : Nat → Int32) : Nat → Int32 := if (z (423 + 3 * (40 * v + k) + 0)) = (nI (1)) then (upd (upd z (423 + (3 * ((40 * v) + k))) (nI (2))) 6 ((z 6) + (nI (1)))) else z
def F_5reject_ro (v : Nat) (k : Nat) (s : Nat) (z : Nat → Int32) (ro : Nat → Int32) : Nat → Int32 := if (z (423 + 3 * (40 * v + k) + 0)) = (nI (1)) then (svR z ro s) else ro
def F_5reject_sv (v : Nat) (k : Nat) (s : Nat) (z : Nat → Int32) (sv : Int32) : Int32 := if (z (423 + 3 * (40 * v + k) + 0)) = (nI (1)) then (nI (svN s)) else sv
def F_5reject_th (v : Nat) (k : Nat) (z : Nat → Int32) : Int32 := if (z (423 + 3 * (40 * v + k) + 0)) = (nI (1)) then (nI (0)) else (nI (2))
def F_5leafA : Int32 := (nI (0))
theorem F_5leafA_01 : F_5leafA  = nI 0 ∨ F_5leafA  = nI 1 := by
  unfold F_5leafA
  (repeat' split) <;> first | exact Or.inl rfl | exact Or.inr rfl | exact wi01 _ _ _
def F_5leafA_th : Int32 := (nI (1))
def F_5leafB : Int32 := (nI (0))
theorem F_5leafB_01 : F_5leafB  = nI 0 ∨ F_5leafB  = nI 1 := by
  unfold F_5leafB
  (repeat' split) <;> first | exact Or.inl rfl | exact Or.inr rfl | exact wi01 _ _ _
def F_5leafB_th : Int32 := (nI (1))
def F_5leafC : Int32 := (nI (0))
theorem F_5leafC_01 : F_5leafC  = nI 0 ∨ F_5leafC  = nI 1 := by
  unfold F_5leafC
  (repeat' split) <;> first | exact Or.inl rfl | exact Or.inr rfl | exact wi01 _ _ _
def F_5leafC_th : Int32 := (nI (2))
def F_5leaf (v : Nat) (k : Nat) (w : Nat) (z : Nat → Int32) : Int32 := (F_5leafNow v k w z)
def F_5leaf_th : Int32 := (nI (0))
def F_5append (c : Int32) (q : Nat) : Int32 := if (wi c (nI (33)) (nI (126))) = 0 then (nI (0)) else if q = 60 then (nI (0)) else ((nI (q)) + (nI (1)))
def F_5append_te (c : Int32) (q : Nat) (te : Nat → Int32) : Nat → Int32 := if (wi c (nI (33)) (nI (126))) = 0 then te else if q = 60 then te else (upd te q c)
def F_5append_ln (c : Int32) (q : Nat) (ln : Int32) : Int32 := if (wi c (nI (33)) (nI (126))) = 0 then ln else if q = 60 then ln else ((nI (q)) + (nI (1)))
def F_5append_th (c : Int32) (q : Nat) : Int32 := if (wi c (nI (33)) (nI (126))) = 0 then (nI (1)) else if q = 60 then (nI (2)) else (nI (0))
def F_5clearBuffer (ln : Int32) : Int32 := ln
def F_5clearBuffer_ln : Int32 := (nI (0))
def F_5clearBuffer_th : Int32 := (nI (0))
def B_5undo_30 (s : Nat) (ro : Nat → Int32) (j30 : Nat) (y30_z : Nat → Int32) : (Nat → Int32) := (upd y30_z j30 (ro ((1863 * (s - 1)) + j30)))
def L_5undo_30 (s : Nat) (z : Nat → Int32) (ro : Nat → Int32) : Nat → (Nat → Int32)
  | 0 => z
  | j + 1 => B_5undo_30 s ro j (L_5undo_30 s z ro  j)
def F_5undo (s : Nat) : Int32 := if s = 0 then (nI (0)) else (nI ((s - 1)))
def F_5undo_z (s : Nat) (z : Nat → Int32) (ro : Nat → Int32) : Nat → Int32 := if s = 0 then z else (L_5undo_30 s z ro 1863)
def F_5undo_sv (s : Nat) (sv : Int32) : Int32 := if s = 0 then sv else (nI ((s - 1)))
def F_5undo_th (s : Nat) : Int32 := if s = 0 then (nI (1)) else (nI (0))
