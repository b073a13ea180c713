theorem ZI_scans {z : Nat → Int32} {nv nc nr ne c v k : Nat} (hc : c < 4) (hv : v < 12) (hk : k < 40) (hZ : ZI z nv nc nr ne) : ZI (F_5scans_z c v k z) nv nc nr ne := by
  have p1 : plc ((95 + (4 * c)) + 2) := ⟨by omega, by omega, by omega, by omega, fun v9 hv9 => by omega⟩
  have p2 : plc ((95 + (4 * c)) + 3) := ⟨by omega, by omega, by omega, by omega, fun v9 hv9 => by omega⟩
  have p3 : plc (423 + (3 * ((40 * v) + k))) := ⟨by omega, by omega, by omega, by omega, fun v9 hv9 => by omega⟩
  have p4 : plc ((423 + (3 * ((40 * v) + k))) + 1) := ⟨by omega, by omega, by omega, by omega, fun v9 hv9 => by omega⟩
  have p5 : plc ((11 + (7 * v)) + 4) := ⟨by omega, by omega, by omega, by omega, fun v9 hv9 => by omega⟩
  have p6 : plc ((11 + (7 * v)) + 3) := ⟨by omega, by omega, by omega, by omega, fun v9 hv9 => by omega⟩
  unfold F_5scans_z
  (repeat' split) <;> repeat (first | exact hZ | exact ZI_upd p1 hZ | refine ZI_upd p1 ?_ | refine ZI_upd p2 ?_ | refine ZI_upd p3 ?_ | refine ZI_upd p4 ?_ | refine ZI_upd p5 ?_ | refine ZI_upd p6 ?_)
def B_5minute_4 (nv : Nat) (j4 : Nat) (x4_1 : Int32) (y4_z : Nat → Int32) : (Int32) × (Nat → Int32) := if (idZ y4_z nv j4) = 0 then (x4_1 + (F_5scans j4 (voG y4_z (nI j4) nv) y4_z), F_5scans_z j4 (voG y4_z (nI j4) nv) (nlG y4_z (voG y4_z (nI j4) nv) (lv y4_z (voG y4_z (nI j4) nv))) y4_z) else (x4_1 + (nI (0)), y4_z)
def L_5minute_4 (nv : Nat) (z : Nat → Int32) : Nat → (Int32) × (Nat → Int32)
  | 0 => (nI (0), z)
  | j + 1 => B_5minute_4 nv j ((L_5minute_4 nv z  j).1) ((L_5minute_4 nv z  j).2)
def B_5minute_42 (j42 : Nat) (y42_z : Nat → Int32) : (Nat → Int32) := if (y42_z (111 + 4 * j42 + 1)) ≤ 0 then (upd y42_z ((111 + (4 * j42)) + 1) ((y42_z ((111 + (4 * j42)) + 1)) - (nI (0)))) else (upd y42_z ((111 + (4 * j42)) + 1) ((y42_z ((111 + (4 * j42)) + 1)) - (nI (1))))
def L_5minute_42 (nv : Nat) (nc : Nat) (z : Nat → Int32) : Nat → (Nat → Int32)
  | 0 => (L_5minute_4 nv z nc).2
  | j + 1 => B_5minute_42  j (L_5minute_42 nv nc z  j)
def B_5minute_90 (j90 : Nat) (y90_z : Nat → Int32) : (Nat → Int32) := if (y90_z (11 + 7 * j90 + 6)) ≤ 0 then (upd y90_z ((11 + (7 * j90)) + 6) ((y90_z ((11 + (7 * j90)) + 6)) - (nI (0)))) else (upd y90_z ((11 + (7 * j90)) + 6) ((y90_z ((11 + (7 * j90)) + 6)) - (nI (1))))
def L_5minute_90 (nv : Nat) (nc : Nat) (nr : Nat) (z : Nat → Int32) : Nat → (Nat → Int32)
  | 0 => L_5minute_42 nv nc z nr
  | j + 1 => B_5minute_90  j (L_5minute_90 nv nc nr z  j)
theorem ZI_min4 {z : Nat → Int32} {nv nc nr ne : Nat} (hZ : ZI z nv nc nr ne) : ∀ j : Nat, j ≤ 4 → ZI (L_5minute_4 nv z j).2 nv nc nr ne
  | 0, _ => hZ
  | j + 1, h => by
    have ih := ZI_min4 hZ j (by omega)
    show ZI (B_5minute_4 nv j (L_5minute_4 nv z j).1 (L_5minute_4 nv z j).2).2 nv nc nr ne
    unfold B_5minute_4
    split
    · rename_i h0
      obtain ⟨h1, h2, h3, h4⟩ := idZ_0 ih h0
      exact ZI_scans (by omega) (by have := ih.1.2; omega) h4 ih
    · exact ih
theorem ZI_min42 {z : Nat → Int32} {nv nc nr ne : Nat} (hZ : ZI z nv nc nr ne) (h4 : nc ≤ 4) : ∀ j : Nat, j ≤ 3 → ZI (L_5minute_42 nv nc z j) nv nc nr ne
  | 0, _ => ZI_min4 hZ nc h4
  | j + 1, h => by
    have ih := ZI_min42 hZ h4 j (by omega)
    show ZI (B_5minute_42 j (L_5minute_42 nv nc z j)) nv nc nr ne
    have p1 : plc ((111 + (4 * j)) + 1) := ⟨by omega, by omega, by omega, by omega, fun v9 hv9 => by omega⟩
    unfold B_5minute_42
    split <;> exact ZI_upd p1 ih
theorem ZI_min90 {z : Nat → Int32} {nv nc nr ne : Nat} (hZ : ZI z nv nc nr ne) (h4 : nc ≤ 4) (h3 : nr ≤ 3) : ∀ j : Nat, j ≤ 12 → ZI (L_5minute_90 nv nc nr z j) nv nc nr ne
  | 0, _ => ZI_min42 hZ h4 nr h3
  | j + 1, h => by
    have ih := ZI_min90 hZ h4 h3 j (by omega)
    show ZI (B_5minute_90 j (L_5minute_90 nv nc nr z j)) nv nc nr ne
    have p1 : plc ((11 + (7 * j)) + 6) := ⟨by omega, by omega, by omega, by omega, fun v9 hv9 => by omega⟩
    unfold B_5minute_90
    split <;> exact ZI_upd p1 ih
def F_5minute (nv : Nat) (nc : Nat) (z : Nat → Int32) : Int32 := ((L_5minute_4 nv z nc).1)
def F_5minute_z (nv : Nat) (nc : Nat) (nr : Nat) (z : Nat → Int32) : Nat → Int32 := (upd (L_5minute_90 nv nc nr z nv) 3 (((L_5minute_90 nv nc nr z nv) 3) + (nI (1))))
theorem ZI_minute {z : Nat → Int32} {nv nc nr ne : Nat} (hZ : ZI z nv nc nr ne) : ZI (F_5minute_z nv nc nr z) nv nc nr ne := by
  unfold F_5minute_z
  exact ZI_upd ⟨by omega, by omega, by omega, by omega, fun v9 hv9 => by omega⟩ (ZI_min90 hZ hZ.2.1.2 hZ.2.2.1.2 nv hZ.1.2)

