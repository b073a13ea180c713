theorem F_5goesOn_N {b nx sta : Int32} (h1 : isN nx) (h2 : isN sta) (h3 : nx.toNatClampNeg ≤ 10) (h4 : sta.toNatClampNeg ≤ 10) : isN (F_5goesOn_sta b nx sta) ∧ (F_5goesOn_sta b nx sta).toNatClampNeg ≤ 10 := by
  unfold F_5goesOn_sta
  split
  · exact ⟨h2, h4⟩
  · exact ⟨h1, h3⟩
def F_5takes (c : Int32) (fr : Nat → Int32) (to : Nat → Int32) (un : Nat → Int32) (en : Int32) (sta : Int32) : Int32 := if 3 ≤ (sta.toNatClampNeg) then if 6 ≤ (sta.toNatClampNeg) then if 10 ≤ (sta.toNatClampNeg) then if c = (nI (44)) then (nI (1)) else (nI (0)) else (F_5takesYear c un en sta) else (F_5takesSecond c fr to en sta) else (F_5takesFirst c fr en sta)
theorem F_5takes_01 (c : Int32) (fr : Nat → Int32) (to : Nat → Int32) (un : Nat → Int32) (en : Int32) (sta : Int32) : F_5takes c fr to un en sta = nI 0 ∨ F_5takes c fr to un en sta = nI 1 := by
  unfold F_5takes
  (repeat' split) <;> first | exact Or.inl rfl | exact Or.inr rfl | exact wi01 _ _ _ | apply F_5takesFirst_01 | apply F_5takesSecond_01 | apply F_5takesYear_01
def F_5takes_fr (c : Int32) (fr : Nat → Int32) (en : Int32) (sta : Int32) : Nat → Int32 := if 3 ≤ (sta.toNatClampNeg) then if 6 ≤ (sta.toNatClampNeg) then if 10 ≤ (sta.toNatClampNeg) then if c = (nI (44)) then fr else fr else fr else fr else (F_5takesFirst_fr c fr en sta)
def F_5takes_to (c : Int32) (fr : Nat → Int32) (to : Nat → Int32) (en : Int32) (sta : Int32) : Nat → Int32 := if 3 ≤ (sta.toNatClampNeg) then if 6 ≤ (sta.toNatClampNeg) then if 10 ≤ (sta.toNatClampNeg) then if c = (nI (44)) then to else to else to else (F_5takesSecond_to c fr to en sta) else (F_5takesFirst_to c fr to en sta)
def F_5takes_un (c : Int32) (un : Nat → Int32) (en : Int32) (sta : Int32) : Nat → Int32 := if 3 ≤ (sta.toNatClampNeg) then if 6 ≤ (sta.toNatClampNeg) then if 10 ≤ (sta.toNatClampNeg) then if c = (nI (44)) then un else un else (F_5takesYear_un c un en sta) else un else un
def F_5takes_en (c : Int32) (en : Int32) (sta : Int32) : Int32 := if 3 ≤ (sta.toNatClampNeg) then if 6 ≤ (sta.toNatClampNeg) then if 10 ≤ (sta.toNatClampNeg) then if c = (nI (44)) then ((nI ((en.toNatClampNeg))) + (nI (1))) else ((nI ((en.toNatClampNeg))) + (nI (0))) else en else en else en
def F_5takes_sta (c : Int32) (fr : Nat → Int32) (to : Nat → Int32) (un : Nat → Int32) (en : Int32) (sta : Int32) : Int32 := if 3 ≤ (sta.toNatClampNeg) then if 6 ≤ (sta.toNatClampNeg) then if 10 ≤ (sta.toNatClampNeg) then if c = (nI (44)) then (F_5goesOn_sta (nI (1)) (nI (0)) sta) else (F_5goesOn_sta (nI (0)) (nI (0)) sta) else (F_5takesYear_sta c un en sta) else (F_5takesSecond_sta c fr to en sta) else (F_5takesFirst_sta c fr en sta)
