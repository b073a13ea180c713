def F_5volumeA : Int32 := (nI (0))
theorem F_5volumeA_01 : F_5volumeA  = nI 0 ∨ F_5volumeA  = nI 1 := by
  unfold F_5volumeA
  (repeat' split) <;> first | exact Or.inl rfl | exact Or.inr rfl | exact wi01 _ _ _
def F_5volumeA_th : Int32 := (nI (1))
def F_5volumeB : Int32 := (nI (0))
theorem F_5volumeB_01 : F_5volumeB  = nI 0 ∨ F_5volumeB  = nI 1 := by
  unfold F_5volumeB
  (repeat' split) <;> first | exact Or.inl rfl | exact Or.inr rfl | exact wi01 _ _ _
def F_5volumeB_th : Int32 := (nI (2))
def F_5volume (v : Nat) (w : Nat) (z : Nat → Int32) : Int32 := (F_5volumeNow v w z)
def F_5volume_th : Int32 := (nI (0))
def F_5cradleA : Int32 := (nI (0))
theorem F_5cradleA_01 : F_5cradleA  = nI 0 ∨ F_5cradleA  = nI 1 := by
  unfold F_5cradleA
  (repeat' split) <;> first | exact Or.inl rfl | exact Or.inr rfl | exact wi01 _ _ _
def F_5cradleA_th : Int32 := (nI (1))
def F_5cradleB : Int32 := (nI (0))
theorem F_5cradleB_01 : F_5cradleB  = nI 0 ∨ F_5cradleB  = nI 1 := by
  unfold F_5cradleB
  (repeat' split) <;> first | exact Or.inl rfl | exact Or.inr rfl | exact wi01 _ _ _
def F_5cradleB_th : Int32 := (nI (2))
def F_5cradle (c : Nat) (w : Nat) (nv : Nat) (z : Nat → Int32) : Int32 := (F_5cradleNow c w nv z)
def F_5cradle_th : Int32 := (nI (0))
def F_5carrierA : Int32 := (nI (0))
theorem F_5carrierA_01 : F_5carrierA  = nI 0 ∨ F_5carrierA  = nI 1 := by
  unfold F_5carrierA
  (repeat' split) <;> first | exact Or.inl rfl | exact Or.inr rfl | exact wi01 _ _ _
def F_5carrierA_th : Int32 := (nI (1))
def F_5carrierB : Int32 := (nI (0))
theorem F_5carrierB_01 : F_5carrierB  = nI 0 ∨ F_5carrierB  = nI 1 := by
  unfold F_5carrierB
  (repeat' split) <;> first | exact Or.inl rfl | exact Or.inr rfl | exact wi01 _ _ _
def F_5carrierB_th : Int32 := (nI (2))
def F_5carrier (r : Nat) (w : Nat) (z : Nat → Int32) : Int32 := (z (111 + 4 * r + w))
def F_5carrier_th : Int32 := (nI (0))
def F_5logA : Int32 := (nI (0))
theorem F_5logA_01 : F_5logA  = nI 0 ∨ F_5logA  = nI 1 := by
  unfold F_5logA
  (repeat' split) <;> first | exact Or.inl rfl | exact Or.inr rfl | exact wi01 _ _ _
def F_5logA_th : Int32 := (nI (1))
def F_5logB : Int32 := (nI (0))
theorem F_5logB_01 : F_5logB  = nI 0 ∨ F_5logB  = nI 1 := by
  unfold F_5logB
  (repeat' split) <;> first | exact Or.inl rfl | exact Or.inr rfl | exact wi01 _ _ _
def F_5logB_th : Int32 := (nI (2))
def F_5log (e : Nat) (w : Nat) (z : Nat → Int32) : Int32 := (z ((123 + (5 * e)) + w))
def F_5log_th : Int32 := (nI (0))
def F_5whereAtA : Int32 := (nI (0))
theorem F_5whereAtA_01 : F_5whereAtA  = nI 0 ∨ F_5whereAtA  = nI 1 := by
  unfold F_5whereAtA
  (repeat' split) <;> first | exact Or.inl rfl | exact Or.inr rfl | exact wi01 _ _ _
def F_5whereAtA_th : Int32 := (nI (1))
def F_5whereAt (v : Nat) (m : Int32) (ne : Nat) (z : Nat → Int32) : Int32 := if (wi m (nI (0)) (z 3)) = 0 then (nI (0)) else (L_5whereNow_5 (nI (v)) m z ne)
def F_5whereAt_th (m : Int32) (z : Nat → Int32) : Int32 := if (wi m (nI (0)) (z 3)) = 0 then (nI (2)) else (nI (0))
def F_5countA : Int32 := (nI (0))
theorem F_5countA_01 : F_5countA  = nI 0 ∨ F_5countA  = nI 1 := by
  unfold F_5countA
  (repeat' split) <;> first | exact Or.inl rfl | exact Or.inr rfl | exact wi01 _ _ _
def F_5countA_th : Int32 := (nI (1))
def F_5count (w : Nat) (nv : Nat) (nc : Nat) (z : Nat → Int32) (sv : Int32) : Int32 := (F_5counted w nv nc z sv)
def F_5count_th : Int32 := (nI (0))
def F_5settingA : Int32 := (nI (0))
theorem F_5settingA_01 : F_5settingA  = nI 0 ∨ F_5settingA  = nI 1 := by
  unfold F_5settingA
  (repeat' split) <;> first | exact Or.inl rfl | exact Or.inr rfl | exact wi01 _ _ _
def F_5settingA_th : Int32 := (nI (1))
def F_5setting (k : Nat) (z : Nat → Int32) : Int32 := (z (7 + k))
def F_5setting_th : Int32 := (nI (0))
def F_5ifPassedA : Int32 := (nI (0))
theorem F_5ifPassedA_01 : F_5ifPassedA  = nI 0 ∨ F_5ifPassedA  = nI 1 := by
  unfold F_5ifPassedA
  (repeat' split) <;> first | exact Or.inl rfl | exact Or.inr rfl | exact wi01 _ _ _
def F_5ifPassedA_th : Int32 := (nI (1))
def F_5ifPassedB : Int32 := (nI (0))
theorem F_5ifPassedB_01 : F_5ifPassedB  = nI 0 ∨ F_5ifPassedB  = nI 1 := by
  unfold F_5ifPassedB
  (repeat' split) <;> first | exact Or.inl rfl | exact Or.inr rfl | exact wi01 _ _ _
def F_5ifPassedB_th : Int32 := (nI (2))
def F_5ifPassedC : Int32 := (nI (0))
theorem F_5ifPassedC_01 : F_5ifPassedC  = nI 0 ∨ F_5ifPassedC  = nI 1 := by
  unfold F_5ifPassedC
  (repeat' split) <;> first | exact Or.inl rfl | exact Or.inr rfl | exact wi01 _ _ _
def F_5ifPassedC_th : Int32 := (nI (2))
def F_5ifPassedD (m : Nat) (c : Nat) (nv : Nat) (nc : Nat) (nr : Nat) (z : Nat → Int32) : Int32 := (F_5passedNow m (nI (c)) nv nc nr z)
def F_5ifPassedD_sa (z : Nat → Int32) (sa : Nat → Int32) : Nat → Int32 := (F_5passedNow_sa z sa)
def F_5ifPassedD_th : Int32 := (nI (0))
def F_5ifPassedE (m : Nat) (nv : Nat) (nc : Nat) (nr : Nat) (z : Nat → Int32) : Int32 := (F_5passedNow m (-1) nv nc nr z)
def F_5ifPassedE_sa (z : Nat → Int32) (sa : Nat → Int32) : Nat → Int32 := (F_5passedNow_sa z sa)
def F_5ifPassedE_th : Int32 := (nI (0))
def F_5doneIn (nv : Nat) (nc : Nat) (nr : Nat) (z : Nat → Int32) (sa : Nat → Int32) : Int32 := (F_5doneNow nv nc nr z sa)
def F_5doneIn_sa (z : Nat → Int32) (sa : Nat → Int32) : Nat → Int32 := (F_5doneNow_sa z sa)
def F_5doneIn_th : Int32 := (nI (0))
def F_5quickestA : Int32 := (nI (0))
theorem F_5quickestA_01 : F_5quickestA  = nI 0 ∨ F_5quickestA  = nI 1 := by
  unfold F_5quickestA
  (repeat' split) <;> first | exact Or.inl rfl | exact Or.inr rfl | exact wi01 _ _ _
def F_5quickestA_th : Int32 := (nI (1))
def F_5quickest (v : Nat) (nr : Nat) (z : Nat → Int32) : Int32 := (L_5quickestNow_4 v z nr)
def F_5quickest_th : Int32 := (nI (0))
def F_5bestLoadA : Int32 := (nI (0))
theorem F_5bestLoadA_01 : F_5bestLoadA  = nI 0 ∨ F_5bestLoadA  = nI 1 := by
  unfold F_5bestLoadA
  (repeat' split) <;> first | exact Or.inl rfl | exact Or.inr rfl | exact wi01 _ _ _
def F_5bestLoadA_th : Int32 := (nI (1))
def F_5bestLoadB : Int32 := (nI (0))
theorem F_5bestLoadB_01 : F_5bestLoadB  = nI 0 ∨ F_5bestLoadB  = nI 1 := by
  unfold F_5bestLoadB
  (repeat' split) <;> first | exact Or.inl rfl | exact Or.inr rfl | exact wi01 _ _ _
def F_5bestLoadB_th : Int32 := (nI (1))
def F_5bestLoad (m : Nat) (w : Nat) (nv : Nat) (nc : Nat) (z : Nat → Int32) (ga : Nat → Int32) (pi : Nat → Int32) (be : Nat → Int32) : Int32 := (F_5bestNow w (F_5layBest_be m nv nc z ga pi be) (F_5layBest_bm m nv nc z ga pi be))
def F_5bestLoad_ga (m : Nat) (nv : Nat) (nc : Nat) (z : Nat → Int32) (ga : Nat → Int32) : Nat → Int32 := (F_5layBest_ga m nv nc z ga)
def F_5bestLoad_pi (m : Nat) (nv : Nat) (nc : Nat) (z : Nat → Int32) (ga : Nat → Int32) (pi : Nat → Int32) (be : Nat → Int32) : Nat → Int32 := (F_5layBest_pi m nv nc z ga pi be)
def F_5bestLoad_be (m : Nat) (nv : Nat) (nc : Nat) (z : Nat → Int32) (ga : Nat → Int32) (pi : Nat → Int32) (be : Nat → Int32) : Nat → Int32 := (F_5layBest_be m nv nc z ga pi be)
def F_5bestLoad_bm (m : Nat) (nv : Nat) (nc : Nat) (z : Nat → Int32) (ga : Nat → Int32) (pi : Nat → Int32) (be : Nat → Int32) : Int32 := (F_5layBest_bm m nv nc z ga pi be)
def F_5bestLoad_th : Int32 := (nI (0))
def F_5openShare (nv : Nat) (nc : Nat) (z : Nat → Int32) (sv : Int32) : UInt64 := (F_5openNow nv nc z sv)
def F_5openShare_th : Int32 := (nI (0))
