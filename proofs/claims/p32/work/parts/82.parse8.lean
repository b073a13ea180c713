section PA2
/-- a step of both readers: both refuse, or both go on and agree -/
def Out (c : Nat) (sta f t u trd tv tdg tf tla : Int32) : Prop :=
  (F_5takes (nI c) (fun _ => f) (fun _ => t) (fun _ => u) 0 sta = 0 ∧ F_1accepts c trd tv tdg tf = 0) ∨
  (F_5takes (nI c) (fun _ => f) (fun _ => t) (fun _ => u) 0 sta ≠ 0 ∧ F_1accepts c trd tv tdg tf ≠ 0 ∧
    PA (F_5takes_sta (nI c) (fun _ => f) (fun _ => t) (fun _ => u) 0 sta) (F_5takes_fr (nI c) (fun _ => f) 0 sta 0) (F_5takes_to (nI c) (fun _ => f) (fun _ => t) 0 sta 0) (F_5takes_un (nI c) (fun _ => u) 0 sta 0) (F_1accepts_trd c trd tv tdg tf) (F_1accepts_tv c trd tv tdg tf) (F_1accepts_tdg c trd tv tdg tf) (F_1accepts_tf c trd tv tdg tf) (F_1accepts_tla c trd tv tdg tf tla))
theorem pA_of {sta f t u trd tv tdg tf tla : Int32} (h : (pR sta f t trd tv tdg tf || pY sta f t trd tv tdg tf tla) = true) : PA sta f t u trd tv tdg tf tla := by
  rw [Bool.or_eq_true] at h
  rcases h with h | h
  · exact Or.inl h
  · exact Or.inr (Or.inl (pY_iff h))
/-- the dummies 99 stand for all that tf and tla may be -/
theorem pA_99 {sta f t u trd tv tdg tf tla tf' tla' : Int32} (h : PA sta f t u trd tv tdg tf tla) (hz : ¬ pZ sta u trd tv tdg) (h1 : tf = nI 99 ∨ tf' = tf) (h2 : tla = nI 99 ∨ tla' = tla) : PA sta f t u trd tv tdg tf' tla' := by
  rcases h with h | h | h
  · rcases h1 with h1 | h1
    · rw [h1] at h
      exact Or.inl (pR_tf h _)
    · rw [h1]
      exact Or.inl h
  · obtain ⟨a, b, c, d, e⟩ := h
    rcases h1 with h1 | h1
    · rw [h1] at e
      exact (pW_99 e).elim
    rcases h2 with h2 | h2
    · rw [h2] at e
      exact (pW_99' e).elim
    rw [h1, h2]
    exact Or.inr (Or.inl ⟨a, b, c, d, e⟩)
  · exact absurd h.1 hz
theorem pA_99' {sta f t u trd tv tdg tf tla tf' tla' : Int32} (h : (pR sta f t trd tv tdg tf || pY sta f t trd tv tdg tf tla) = true) (h1 : tf = nI 99 ∨ tf' = tf) (h2 : tla = nI 99 ∨ tla' = tla) : PA sta f t u trd tv tdg tf' tla' := by
  rw [Bool.or_eq_true] at h
  rcases h with h | h
  · rcases h1 with h1 | h1
    · rw [h1] at h
      exact Or.inl (pR_tf h _)
    · rw [h1]
      exact Or.inl h
  · obtain ⟨a, b, c, d, e⟩ := pY_iff h
    rcases h1 with h1 | h1
    · rw [h1] at e
      exact (pW_99 e).elim
    rcases h2 with h2 | h2
    · rw [h2] at e
      exact (pW_99' e).elim
    rw [h1, h2]
    exact Or.inr (Or.inl ⟨a, b, c, d, e⟩)
theorem pS_out {c : Nat} {sta f t u trd tv tdg tf0 tf tla : Int32} (h : pS c sta f t trd tv tdg tf0 = true)
    (hu : F_5takes (nI c) (fun _ => f) (fun _ => t) (fun _ => u) 0 sta = F_5takes (nI c) (fun _ => f) (fun _ => t) (fun _ => 0) 0 sta)
    (hus : F_5takes_sta (nI c) (fun _ => f) (fun _ => t) (fun _ => u) 0 sta = F_5takes_sta (nI c) (fun _ => f) (fun _ => t) (fun _ => 0) 0 sta)
    (htf : tf = tf0 ∨ (trd = 0 ∧ tf0 = nI 99)) : Out c sta f t u trd tv tdg tf tla := by
  have ha : F_1accepts c trd tv tdg tf = F_1accepts c trd tv tdg tf0 ∧ F_1accepts_trd c trd tv tdg tf = F_1accepts_trd c trd tv tdg tf0 ∧ F_1accepts_tv c trd tv tdg tf = F_1accepts_tv c trd tv tdg tf0 ∧ F_1accepts_tdg c trd tv tdg tf = F_1accepts_tdg c trd tv tdg tf0 := by
    rcases htf with q | ⟨q, -⟩
    · rw [q]
      exact ⟨rfl, rfl, rfl, rfl⟩
    · subst q
      obtain ⟨a1, a2, a3, a4⟩ := ac_0 c tv tdg tf
      obtain ⟨b1, b2, b3, b4⟩ := ac_0 c tv tdg tf0
      exact ⟨a1.trans b1.symm, a2.trans b2.symm, a3.trans b3.symm, a4.trans b4.symm⟩
  obtain ⟨a1, a2, a3, a4⟩ := ha
  have hf : F_1accepts_tf c trd tv tdg tf0 = nI 99 ∨ F_1accepts_tf c trd tv tdg tf = F_1accepts_tf c trd tv tdg tf0 := by
    rcases htf with q | ⟨q, q2⟩
    · rw [q]
      exact Or.inr rfl
    · subst q
      rcases tf_ind c tv tdg tf0 with w | w
      · exact Or.inl (w.trans q2)
      · exact Or.inr (w tf)
  have hl : F_1accepts_tla c trd tv tdg tf0 (nI 99) = nI 99 ∨ F_1accepts_tla c trd tv tdg tf tla = F_1accepts_tla c trd tv tdg tf0 (nI 99) := by
    rcases tla_ind c trd tv tdg tf0 (nI 99) with w | w
    · exact Or.inl w
    · refine Or.inr ?_
      rw [← w tla]
      rcases htf with q | ⟨q, q2⟩
      · rw [q]
      · subst q
        unfold F_1accepts_tla F_1acceptsColon_tla
        simp only [ln0, ite_self]
  unfold Out
  rw [hu, hus, a1, a2, a3, a4]
  unfold pS at h
  by_cases q : F_5takes (nI c) (fun _ => f) (fun _ => t) (fun _ => 0) 0 sta = 0
  · rw [if_pos q] at h
    exact Or.inl ⟨q, eq_of_beq h⟩
  · rw [if_neg q, Bool.and_eq_true] at h
    refine Or.inr ⟨q, ?_, pA_99' h.2 hf hl⟩
    intro e
    rw [e] at h
    exact absurd h.1 (by decide)
theorem o1 {c f : Nat} (hf : f < 10) (hc : c < 127) (u tf tla : Int32) : Out c (nI 1) (nI f) (-1) u 0 (nI f) (nI 1) tf tla := pS_out (ps_1 ⟨f, hf⟩ ⟨c, hc⟩) rfl rfl (Or.inr ⟨rfl, rfl⟩)
theorem o2 {c f : Nat} (h0 : 10 ≤ f) (hf : f < 40) (hc : c < 127) (u tf tla : Int32) : Out c (nI 2) (nI f) (-1) u 0 (nI f) (nI 2) tf tla := pS_out (ps_2 ⟨f, hf⟩ h0 ⟨c, hc⟩) rfl rfl (Or.inr ⟨rfl, rfl⟩)
theorem o3 {c f : Nat} (hf : f < 39) (hc : c < 127) (u tla : Int32) : Out c (nI 3) (nI f) (-1) u (nI 1) 0 0 (nI f) tla := pS_out (ps_3 ⟨f, hf⟩ ⟨c, hc⟩) rfl rfl (Or.inl rfl)
theorem o4 {c f t : Nat} (hf : f < 39) (h1 : 1 ≤ t) (ht : t < 10) (hc : c < 127) (u tla : Int32) : Out c (nI 4) (nI f) (nI t) u (nI 1) (nI t) (nI 1) (nI f) tla := pS_out (ps_4 ⟨f, hf⟩ ⟨t, ht⟩ h1 ⟨c, hc⟩) rfl rfl (Or.inl rfl)
theorem fst_0 (c : Int32) (fr : Nat → Int32) (en : Int32) : F_5takesFirst c fr en (nI 0) = wi (c - nI 48) (nI 0) (nI 9) ∧ F_5takesFirst_sta c fr en (nI 0) = F_5goesOn_sta (wi (c - nI 48) (nI 0) (nI 9)) (nI 1) (nI 0) ∧ F_5takesFirst_fr c fr en (nI 0) = upd fr en.toNatClampNeg (c - nI 48) := by
  unfold F_5takesFirst F_5takesFirst_sta F_5takesFirst_fr
  have e : (nI 0).toNatClampNeg = 0 := rfl
  simp only [e, if_true]
  refine ⟨?_, ?_, ?_⟩ <;> ((repeat' split) <;> rfl)
theorem fst_0t (c : Int32) (fr to : Nat → Int32) (en : Int32) : F_5takesFirst_to c fr to en (nI 0) = upd to en.toNatClampNeg (-1) := by
  unfold F_5takesFirst_to
  have e : (nI 0).toNatClampNeg = 0 := rfl
  simp only [e, if_true]
  (repeat' split) <;> rfl
theorem o0 {c : Nat} (hc : c < 127) (f t u tf tla : Int32) : Out c (nI 0) f t u 0 0 0 tf tla := by
  have h : Out c (nI 0) 0 0 u 0 0 0 tf tla := pS_out (ps_0 ⟨c, hc⟩) rfl rfl (Or.inr ⟨rfl, rfl⟩)
  have e1 : F_5takes (nI c) (fun _ => f) (fun _ => t) (fun _ => u) 0 (nI 0) = F_5takes (nI c) (fun _ => 0) (fun _ => 0) (fun _ => u) 0 (nI 0) := (fst_0 (nI c) (fun _ => f) 0).1.trans (fst_0 (nI c) (fun _ => 0) 0).1.symm
  have e2 : F_5takes_sta (nI c) (fun _ => f) (fun _ => t) (fun _ => u) 0 (nI 0) = F_5takes_sta (nI c) (fun _ => 0) (fun _ => 0) (fun _ => u) 0 (nI 0) := (fst_0 (nI c) (fun _ => f) 0).2.1.trans (fst_0 (nI c) (fun _ => 0) 0).2.1.symm
  have e3 : F_5takes_fr (nI c) (fun _ => f) 0 (nI 0) 0 = F_5takes_fr (nI c) (fun _ => 0) 0 (nI 0) 0 := (congrFun (fst_0 (nI c) (fun _ => f) 0).2.2 0).trans (congrFun (fst_0 (nI c) (fun _ => 0) 0).2.2 0).symm
  have e4 : F_5takes_to (nI c) (fun _ => f) (fun _ => t) 0 (nI 0) 0 = F_5takes_to (nI c) (fun _ => 0) (fun _ => 0) 0 (nI 0) 0 := (congrFun (fst_0t (nI c) (fun _ => f) (fun _ => t) 0) 0).trans (congrFun (fst_0t (nI c) (fun _ => 0) (fun _ => 0) 0) 0).symm
  unfold Out at h ⊢
  rw [e1, e2, e3, e4]
  exact h
end PA2
