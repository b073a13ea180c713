/-! changes of the reference's cells -/
theorem upd_ne {f : Nat → Int32} {i k : Nat} {x : Int32} (h : k ≠ i) : upd f i x k = f k := if_neg h
theorem upd_eq {f : Nat → Int32} {i : Nat} {x : Int32} : upd f i x i = x := if_pos rfl
theorem lv_upd {z : Nat → Int32} {i v : Nat} {x : Int32} (h : i ≠ 11 + 7 * v + 2) : lv (upd z i x) v = lv z v := by
  unfold lv
  rw [upd_ne (fun q => h q.symm)]
theorem LV_upd {z : Nat → Int32} {nv i : Nat} {x : Int32} (h12 : nv ≤ 12) (h : ∀ v, v < 12 → i ≠ 11 + 7 * v + 2) (hL : LV z nv) : LV (upd z i x) nv := by
  intro v hv
  rw [lv_upd (h v (by omega)), upd_ne (fun q => h v (by omega) q.symm)]
  exact hL v hv
/-- a place that the walks don't look at -/
def plc (i : Nat) : Prop := i ≠ 0 ∧ i ≠ 1 ∧ i ≠ 2 ∧ i ≠ 5 ∧ ∀ v, v < 12 → i ≠ 11 + 7 * v + 2
theorem ZI_upd {z : Nat → Int32} {nv nc nr ne i : Nat} {x : Int32} (h : plc i) (hZ : ZI z nv nc nr ne) : ZI (upd z i x) nv nc nr ne := by
  obtain ⟨a, b, c, e, g⟩ := h
  obtain ⟨⟨h1, h2⟩, ⟨h3, h4⟩, ⟨h5, h6⟩, ⟨h7, h8⟩, h9⟩ := hZ
  exact ⟨⟨(upd_ne a.symm).trans h1, h2⟩, ⟨(upd_ne b.symm).trans h3, h4⟩, ⟨(upd_ne c.symm).trans h5, h6⟩, ⟨(upd_ne e.symm).trans h7, h8⟩, LV_upd h2 g h9⟩
theorem nlB_congr {f g : Nat → Int32} : ∀ {m k : Nat}, (∀ j, k ≤ j → j < k + m → f j = g j) → nlB f m k = nlB g m k := by
  have H : ∀ (y : Int32) (m k : Nat), (∀ j, k ≤ j → j < k + m → f j = g j) → fi (fun j => f j = y) m k = fi (fun j => g j = y) m k := by
    intro y m
    induction m with
    | zero => intro k _; rfl
    | succ m ih =>
      intro k h
      unfold fi
      rw [ih (k + 1) (fun j h1 h2 => h j (by omega) (by omega)), h k (Nat.le_refl _) (by omega)]
  intro m k h
  unfold nlB
  rw [H _ m k h, H _ m k h]
theorem nlO_upd {z : Nat → Int32} {i v n : Nat} {x : Int32} (h : i < 423) : nlO (upd z i x) v n = nlO z v n := nlB_congr fun j _ _ => upd_ne (by omega)
def B_5saveF_11 (j11 : Nat) (y11_ro : Nat → Int32) : (Nat → Int32) := (upd y11_ro j11 (y11_ro (1863 + j11)))
def L_5saveF_11 (ro : Nat → Int32) : Nat → (Nat → Int32)
  | 0 => ro
  | j + 1 => B_5saveF_11  j (L_5saveF_11 ro  j)
def B_5saveF_52 (z : Nat → Int32) (j52 : Nat) (y52_ro : Nat → Int32) : (Nat → Int32) := (upd y52_ro ((1863 * (6 - 1)) + j52) (z j52))
def L_5saveF_52 (z : Nat → Int32) (ro : Nat → Int32) : Nat → (Nat → Int32)
  | 0 => L_5saveF_11 ro 9315
  | j + 1 => B_5saveF_52 z j (L_5saveF_52 z ro  j)
def F_5saveF_ro (z : Nat → Int32) (ro : Nat → Int32) : Nat → Int32 := (L_5saveF_52 z ro 1863)
def F_5saveF_sv : Int32 := ((nI ((6 - 1))) + (nI (1)))
def B_5saveM_52 (s : Nat) (z : Nat → Int32) (j52 : Nat) (y52_ro : Nat → Int32) : (Nat → Int32) := (upd y52_ro ((1863 * s) + j52) (z j52))
def L_5saveM_52 (s : Nat) (z : Nat → Int32) (ro : Nat → Int32) : Nat → (Nat → Int32)
  | 0 => ro
  | j + 1 => B_5saveM_52 s z j (L_5saveM_52 s z ro  j)
def F_5saveM_ro (s : Nat) (z : Nat → Int32) (ro : Nat → Int32) : Nat → Int32 := (L_5saveM_52 s z ro 1863)
def F_5saveM_sv (s : Nat) : Int32 := ((nI (s)) + (nI (1)))
/-- the saved states behind a save -/
def svR (z ro : Nat → Int32) (s : Nat) : Nat → Int32 := if s = 6 then F_5saveF_ro z ro else F_5saveM_ro s z ro
def svN (s : Nat) : Nat := if s = 6 then 6 else s + 1
