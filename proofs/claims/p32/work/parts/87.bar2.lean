def F_5lastOf (e : Nat) (fr : Nat → Int32) (to : Nat → Int32) : Int32 := if (to e) = (-1) then (fr e) else (to e)
def F_5barA : Int32 := (nI (0))
theorem F_5barA_01 : F_5barA  = nI 0 ∨ F_5barA  = nI 1 := by
  unfold F_5barA
  (repeat' split) <;> first | exact Or.inl rfl | exact Or.inr rfl | exact wi01 _ _ _
def F_5barA_th : Int32 := (nI (1))
def F_5barB : Int32 := (nI (0))
theorem F_5barB_01 : F_5barB  = nI 0 ∨ F_5barB  = nI 1 := by
  unfold F_5barB
  (repeat' split) <;> first | exact Or.inl rfl | exact Or.inr rfl | exact wi01 _ _ _
def F_5barB_fr (q : Nat) (te : Nat → Int32) (fr : Nat → Int32) (to : Nat → Int32) (un : Nat → Int32) : Nat → Int32 := (F_5read_fr q te fr to un)
def F_5barB_to (q : Nat) (te : Nat → Int32) (fr : Nat → Int32) (to : Nat → Int32) (un : Nat → Int32) : Nat → Int32 := (F_5read_to q te fr to un)
def F_5barB_un (q : Nat) (te : Nat → Int32) (fr : Nat → Int32) (to : Nat → Int32) (un : Nat → Int32) : Nat → Int32 := (F_5read_un q te fr to un)
def F_5barB_en (q : Nat) (te : Nat → Int32) (fr : Nat → Int32) (to : Nat → Int32) (un : Nat → Int32) : Int32 := (F_5read_en q te fr to un)
def F_5barB_sta (q : Nat) (te : Nat → Int32) (fr : Nat → Int32) (to : Nat → Int32) (un : Nat → Int32) : Int32 := (F_5read_sta q te fr to un)
def F_5barB_th : Int32 := (nI (2))
def F_5barC : Int32 := (nI (0))
theorem F_5barC_01 : F_5barC  = nI 0 ∨ F_5barC  = nI 1 := by
  unfold F_5barC
  (repeat' split) <;> first | exact Or.inl rfl | exact Or.inr rfl | exact wi01 _ _ _
def F_5barC_fr (q : Nat) (te : Nat → Int32) (fr : Nat → Int32) (to : Nat → Int32) (un : Nat → Int32) : Nat → Int32 := (F_5read_fr q te fr to un)
def F_5barC_to (q : Nat) (te : Nat → Int32) (fr : Nat → Int32) (to : Nat → Int32) (un : Nat → Int32) : Nat → Int32 := (F_5read_to q te fr to un)
def F_5barC_un (q : Nat) (te : Nat → Int32) (fr : Nat → Int32) (to : Nat → Int32) (un : Nat → Int32) : Nat → Int32 := (F_5read_un q te fr to un)
def F_5barC_en (q : Nat) (te : Nat → Int32) (fr : Nat → Int32) (to : Nat → Int32) (un : Nat → Int32) : Int32 := (F_5read_en q te fr to un)
def F_5barC_sta (q : Nat) (te : Nat → Int32) (fr : Nat → Int32) (to : Nat → Int32) (un : Nat → Int32) : Int32 := (F_5read_sta q te fr to un)
def F_5barC_th : Int32 := (nI (2))
def F_5barE : Int32 := (nI (0))
theorem F_5barE_01 : F_5barE  = nI 0 ∨ F_5barE  = nI 1 := by
  unfold F_5barE
  (repeat' split) <;> first | exact Or.inl rfl | exact Or.inr rfl | exact wi01 _ _ _
def F_5barE_fr (q : Nat) (te : Nat → Int32) (fr : Nat → Int32) (to : Nat → Int32) (un : Nat → Int32) : Nat → Int32 := (F_5read_fr q te fr to un)
def F_5barE_to (q : Nat) (te : Nat → Int32) (fr : Nat → Int32) (to : Nat → Int32) (un : Nat → Int32) : Nat → Int32 := (F_5read_to q te fr to un)
def F_5barE_un (q : Nat) (te : Nat → Int32) (fr : Nat → Int32) (to : Nat → Int32) (un : Nat → Int32) : Nat → Int32 := (F_5read_un q te fr to un)
def F_5barE_en (q : Nat) (te : Nat → Int32) (fr : Nat → Int32) (to : Nat → Int32) (un : Nat → Int32) : Int32 := (F_5read_en q te fr to un)
def F_5barE_sta (q : Nat) (te : Nat → Int32) (fr : Nat → Int32) (to : Nat → Int32) (un : Nat → Int32) : Int32 := (F_5read_sta q te fr to un)
def F_5barE_th : Int32 := (nI (3))
def B_5bar_102 (v : Nat) (q : Nat) (A : Nat → Nat) (te : Nat → Int32) (fr : Nat → Int32) (to : Nat → Int32) (un : Nat → Int32) (j87 : Nat) (j102 : Nat) (y102_z : Nat → Int32) : (Nat → Int32) := (upd y102_z ((423 + (3 * ((40 * v) + (A j87 + j102)))) + 2) ((F_5read_un q te fr to un) j87))
def L_5bar_102 (v : Nat) (q : Nat) (A : Nat → Nat) (te : Nat → Int32) (fr : Nat → Int32) (to : Nat → Int32) (un : Nat → Int32) (j87 : Nat) (y87_z : Nat → Int32) : Nat → (Nat → Int32)
  | 0 => y87_z
  | j + 1 => B_5bar_102 v q A te fr to un j87 j (L_5bar_102 v q A te fr to un j87 y87_z  j)
def B_5bar_87 (v : Nat) (q : Nat) (A : Nat → Nat) (B : Nat → Nat) (te : Nat → Int32) (fr : Nat → Int32) (to : Nat → Int32) (un : Nat → Int32) (j87 : Nat) (y87_z : Nat → Int32) : (Nat → Int32) := (L_5bar_102 v q A te fr to un j87 y87_z (B j87 + 1 - A j87))
def L_5bar_87 (v : Nat) (q : Nat) (A : Nat → Nat) (B : Nat → Nat) (z : Nat → Int32) (te : Nat → Int32) (fr : Nat → Int32) (to : Nat → Int32) (un : Nat → Int32) : Nat → (Nat → Int32)
  | 0 => z
  | j + 1 => B_5bar_87 v q A B te fr to un j (L_5bar_87 v q A B z te fr to un  j)
theorem ZI_barI {v q e : Nat} {A : Nat → Nat} {te fr to un z : Nat → Int32} {nv nc nr ne : Nat} (hZ : ZI z nv nc nr ne) : ∀ j : Nat, ZI (L_5bar_102 v q A te fr to un e z j) nv nc nr ne
  | 0 => hZ
  | j + 1 => ZI_upd ⟨by omega, by omega, by omega, by omega, fun v9 h9 => by omega⟩ (ZI_barI hZ j)
theorem ZI_bar {v q : Nat} {A B : Nat → Nat} {te fr to un z : Nat → Int32} {nv nc nr ne : Nat} (hZ : ZI z nv nc nr ne) : ∀ j : Nat, ZI (L_5bar_87 v q A B z te fr to un j) nv nc nr ne
  | 0 => hZ
  | j + 1 => ZI_barI (ZI_bar hZ j) (B j + 1 - A j)
def F_5bar (v : Nat) (q : Nat) (p : Nat) (A : Nat → Nat) (B : Nat → Nat) (z : Nat → Int32) (te : Nat → Int32) (fr : Nat → Int32) (to : Nat → Int32) (un : Nat → Int32) : Int32 := (L_5barred_4 v (L_5bar_87 v q A B z te fr to un (p + 1)) (lv (L_5bar_87 v q A B z te fr to un (p + 1)) v))
def F_5bar_z (v : Nat) (q : Nat) (p : Nat) (A : Nat → Nat) (B : Nat → Nat) (z : Nat → Int32) (te : Nat → Int32) (fr : Nat → Int32) (to : Nat → Int32) (un : Nat → Int32) : Nat → Int32 := (L_5bar_87 v q A B z te fr to un (p + 1))
def F_5bar_ro (s : Nat) (z : Nat → Int32) (ro : Nat → Int32) : Nat → Int32 := (svR z ro s)
def F_5bar_fr (q : Nat) (te : Nat → Int32) (fr : Nat → Int32) (to : Nat → Int32) (un : Nat → Int32) : Nat → Int32 := (F_5read_fr q te fr to un)
def F_5bar_to (q : Nat) (te : Nat → Int32) (fr : Nat → Int32) (to : Nat → Int32) (un : Nat → Int32) : Nat → Int32 := (F_5read_to q te fr to un)
def F_5bar_un (q : Nat) (te : Nat → Int32) (fr : Nat → Int32) (to : Nat → Int32) (un : Nat → Int32) : Nat → Int32 := (F_5read_un q te fr to un)
def F_5bar_en (q : Nat) (te : Nat → Int32) (fr : Nat → Int32) (to : Nat → Int32) (un : Nat → Int32) : Int32 := (F_5read_en q te fr to un)
def F_5bar_sta (q : Nat) (te : Nat → Int32) (fr : Nat → Int32) (to : Nat → Int32) (un : Nat → Int32) : Int32 := (F_5read_sta q te fr to un)
def F_5bar_sv (s : Nat) : Int32 := (nI (svN s))
def F_5bar_ln : Int32 := (nI (0))
def F_5bar_th : Int32 := (nI (0))
