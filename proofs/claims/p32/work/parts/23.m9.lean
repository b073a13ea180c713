def B_5canPick_38 (c : Nat) (pi : Nat → Int32) (j38 : Nat) (x38_2 : Int32) : (Int32) := if x38_2 = 0 then (nI (0)) else if (pi c) = (-1) then (nI (1)) else if (pi j38) = (pi c) then (nI (0)) else (nI (1))
def L_5canPick_38 (c : Nat) (pi : Nat → Int32) (i38_0 : Int32) : Nat → (Int32)
  | 0 => i38_0
  | j + 1 => B_5canPick_38 c pi j (L_5canPick_38 c pi i38_0 j)
def F_5canPick (c : Nat) (ga : Nat → Int32) (pi : Nat → Int32) : Int32 := if (pi c) = (-1) then (L_5canPick_38 c pi (nI (1)) c) else if (ga ((12 * c) + (pi c).toNatClampNeg)) = (-1) then (L_5canPick_38 c pi (nI (0)) c) else (L_5canPick_38 c pi (nI (1)) c)
def F_5bestNow (w : Nat) (be : Nat → Int32) (bm : Int32) : Int32 := if w = 0 then bm else (be (w - 1))
def B_5keepPicks_4 (ga : Nat → Int32) (pi : Nat → Int32) (j4 : Nat) (x4_1 : Int32) : (Int32) := if (pi j4) = (-1) then (x4_1 + (nI (0))) else (x4_1 + (ga ((12 * j4) + (pi j4).toNatClampNeg)))
def L_5keepPicks_4 (ga : Nat → Int32) (pi : Nat → Int32) : Nat → (Int32)
  | 0 => nI (0)
  | j + 1 => B_5keepPicks_4 ga pi j (L_5keepPicks_4 ga pi  j)
def W_5keepPicks_50 (ga : Nat → Int32) (pi : Nat → Int32) (bm : Int32) : Nat → Nat → (Nat → Int32) → (Nat → Int32) × (Int32)
  | 0, j50, y50_be => if (L_5keepPicks_4 ga pi 4) ≤ bm then (y50_be, bm) else (y50_be, L_5keepPicks_4 ga pi 4)
  | f50 + 1, j50, y50_be => if (L_5keepPicks_4 ga pi 4) ≤ bm then if (L_5keepPicks_4 ga pi 4) ≤ bm then (y50_be, bm) else (y50_be, L_5keepPicks_4 ga pi 4) else W_5keepPicks_50 ga pi bm f50 (j50 + 1) (upd y50_be j50 (pi j50))
def F_5keepPicks_be (ga : Nat → Int32) (pi : Nat → Int32) (be : Nat → Int32) (bm : Int32) : Nat → Int32 := ((W_5keepPicks_50 ga pi bm 4 0 be).1)
def F_5keepPicks_bm (ga : Nat → Int32) (pi : Nat → Int32) (be : Nat → Int32) (bm : Int32) : Int32 := ((W_5keepPicks_50 ga pi bm 4 0 be).2)
def F_5openNow (nv : Nat) (nc : Nat) (z : Nat → Int32) (sv : Int32) : UInt64 := if (F_5counted 6 nv nc z sv) = 0 then (FP.dconst0) else (FP.ddiv (FP.i2d (F_5counted 9 nv nc z sv)) (FP.i2d (F_5counted 6 nv nc z sv)))
def F_5mix_hh (v : Int64) (hh : Int64) : Int64 := ((31 * hh) + v)
def B_5mixVolume_2 (v : Nat) (z : Nat → Int32) (j2 : Nat) (y2_hh : Int64) : (Int64) := (F_5mix_hh ((F_5volumeNow v j2 z).toInt64) y2_hh)
def L_5mixVolume_2 (v : Nat) (z : Nat → Int32) (hh : Int64) : Nat → (Int64)
  | 0 => hh
  | j + 1 => B_5mixVolume_2 v z j (L_5mixVolume_2 v z hh  j)
def B_5mixVolume_27 (v : Nat) (z : Nat → Int32) (j27 : Nat) (y27_hh : Int64) : (Int64) := (F_5mix_hh ((F_5leafNow v (j27 / 4) (j27 % 4) z).toInt64) y27_hh)
def L_5mixVolume_27 (v : Nat) (z : Nat → Int32) (hh : Int64) : Nat → (Int64)
  | 0 => L_5mixVolume_2 v z hh 12
  | j + 1 => B_5mixVolume_27 v z j (L_5mixVolume_27 v z hh  j)
def F_5mixVolume_hh (v : Nat) (nr : Nat) (ne : Nat) (z : Nat → Int32) (hh : Int64) : Int64 := (F_5mix_hh ((L_5quickestNow_4 v z nr).toInt64) (F_5mix_hh ((L_5whereNow_5 (nI (v)) (z 3) z ne).toInt64) (L_5mixVolume_27 v z hh (4 * lv z v))))
theorem CT.hp {E : AE} {M : AM} {d : Nat} {av : List Value} {h : AH} {o : AR0} {h' k : AH} {mc ms : Nat} (hc : CT E M d av h o h' mc ms) (e : h' = k) : CT E M d av h o k mc ms := by rw [← e]; exact hc
/-! what lies behind the cells is never written -/
theorem hi_scans {z : Nat → Int32} {c v k i : Nat} (hc : c < 4) (hv : v < 12) (hk : k < 40) (hi : 1863 ≤ i) : F_5scans_z c v k z i = z i := by
  unfold F_5scans_z
  (repeat' split) <;> (repeat rw [upd_ne (by omega)])
theorem hi_min4 {z : Nat → Int32} {nv nc nr ne i : Nat} (hZ : ZI z nv nc nr ne) (hi : 1863 ≤ i) : ∀ j : Nat, j ≤ 4 → (L_5minute_4 nv z j).2 i = z i
  | 0, _ => rfl
  | j + 1, h => by
    have ih := hi_min4 hZ hi j (by omega)
    have iz := ZI_min4 hZ j (by omega)
    show (B_5minute_4 nv j (L_5minute_4 nv z j).1 (L_5minute_4 nv z j).2).2 i = z i
    unfold B_5minute_4
    split
    · rename_i h0
      obtain ⟨h1, h2, h3, h4⟩ := idZ_0 iz h0
      exact (hi_scans (by omega) (by have := iz.1.2; omega) h4 hi).trans ih
    · exact ih
theorem hi_min42 {z : Nat → Int32} {nv nc nr ne i : Nat} (hZ : ZI z nv nc nr ne) (hi : 1863 ≤ i) : ∀ j : Nat, j ≤ 3 → L_5minute_42 nv nc z j i = z i
  | 0, _ => hi_min4 hZ hi nc hZ.2.1.2
  | j + 1, h => by
    have ih := hi_min42 hZ hi j (by omega)
    show B_5minute_42 j (L_5minute_42 nv nc z j) i = z i
    unfold B_5minute_42
    split <;> (rw [upd_ne (by omega)]; exact ih)
theorem hi_min90 {z : Nat → Int32} {nv nc nr ne i : Nat} (hZ : ZI z nv nc nr ne) (hi : 1863 ≤ i) : ∀ j : Nat, j ≤ 12 → L_5minute_90 nv nc nr z j i = z i
  | 0, _ => hi_min42 hZ hi nr hZ.2.2.1.2
  | j + 1, h => by
    have ih := hi_min90 hZ hi j (by omega)
    show B_5minute_90 j (L_5minute_90 nv nc nr z j) i = z i
    unfold B_5minute_90
    split <;> (rw [upd_ne (by omega)]; exact ih)
theorem hi_minute {z : Nat → Int32} {nv nc nr ne i : Nat} (hZ : ZI z nv nc nr ne) (hi : 1863 ≤ i) : F_5minute_z nv nc nr z i = z i := by
  unfold F_5minute_z
  rw [upd_ne (by omega)]
  exact hi_min90 hZ hi nv hZ.1.2
theorem hi_mnN {z : Nat → Int32} {nv nc nr ne i : Nat} (hZ : ZI z nv nc nr ne) (hi : 1863 ≤ i) : ∀ j : Nat, mnN nv nc nr z j i = z i
  | 0 => rfl
  | j + 1 => (hi_minute (ZI_mnN hZ j) hi).trans (hi_mnN hZ hi j)
theorem cpK_back {z y sa : Nat → Int32} (h : ∀ i, 1863 ≤ i → y i = z i) : cpK (cpK z sa 1863) y 1863 = z := by
  funext i
  unfold cpK
  by_cases h1 : i < 1863
  · rw [if_pos h1, if_pos h1]
  · rw [if_neg h1, h i (by omega)]
theorem pN_back {z sa : Nat → Int32} {nv nc nr ne m : Nat} (hZ : ZI z nv nc nr ne) : F_5passedNow_z m nv nc nr z sa = z := by
  unfold F_5passedNow_z
  rw [pN_mn]
  exact cpK_back fun i hi => hi_mnN hZ hi m
theorem W_doneNow_back {z sa : Nat → Int32} {nv nc nr ne : Nat} : ∀ (f j : Nat) (y : Nat → Int32), ZI y nv nc nr ne → (∀ i, 1863 ≤ i → y i = z i) → (W_5doneNow_6 nv nc nr z sa f j y).2 = z
  | 0, j, y, hy, h => by
    unfold W_5doneNow_6
    split <;> exact cpK_back h
  | f + 1, j, y, hy, h => by
    unfold W_5doneNow_6
    split
    · split <;> exact cpK_back h
    · exact W_doneNow_back f (j + 1) _ (ZI_minute hy) fun i hi => (hi_minute hy hi).trans (h i hi)
theorem dN_back {z sa : Nat → Int32} {nv nc nr ne : Nat} (hZ : ZI z nv nc nr ne) : F_5doneNow_z nv nc nr z sa = z := W_doneNow_back 2001 0 z hZ fun _ _ => rfl

