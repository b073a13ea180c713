section PA5
theorem PA_0 {f t u trd tv tdg tf tla : Int32} (h : PA (nI 0) f t u trd tv tdg tf tla) : trd = 0 ∧ tv = 0 ∧ tdg = 0 := by
  rcases h with h | h | h
  · rcases pR_cases h with q | q | q | q | q | q
    · exact q.2
    all_goals exact absurd q.1 (by decide)
  · exact absurd h.1 (by decide)
  · obtain ⟨⟨-, -, hz⟩, -⟩ := h
    rcases hz with q | q | q | q <;> exact absurd q.1 (by decide)
theorem PA_of0 (f t u tf tla : Int32) : PA (nI 0) f t u 0 0 0 tf tla := Or.inl rfl
theorem PA_9 {sta f t u trd tv tdg tf tla : Int32} (h : PA sta f t u trd tv tdg tf tla) : (sta = nI 9 → trd = nI 2 ∧ tdg = nI 3) ∧ (sta = nI 10 → trd = nI 2 ∧ tdg = nI 4) ∧ (sta ≠ nI 9 → sta ≠ nI 10 → F_1isComplete trd (tdg + nI 1) = 0) := by
  rcases h with h | h | h
  · have : trd = 0 ∨ trd = nI 1 := by
      rcases pR_cases h with q | q | q | q | q | q <;> simp [q]
    have h9 : sta ≠ nI 9 := by
      rcases pR_cases h with q | q | q | q | q | q <;> (rw [q.1]; decide)
    have h10 : sta ≠ nI 10 := by
      rcases pR_cases h with q | q | q | q | q | q <;> (rw [q.1]; decide)
    refine ⟨fun e => absurd e h9, fun e => absurd e h10, fun _ _ => ?_⟩
    rcases this with e | e <;> (rw [e]; rfl)
  · obtain ⟨rfl, rfl, rfl, rfl, hw⟩ := h
    exact ⟨fun e => absurd e (by decide), fun e => absurd e (by decide), fun _ _ => rfl⟩
  · obtain ⟨⟨rfl, rfl, hz⟩, hw⟩ := h
    rcases hz with ⟨rfl, rfl, a, b⟩ | ⟨rfl, rfl, a, b⟩ | ⟨rfl, rfl, a, b⟩ | ⟨rfl, rfl, a, b⟩
    · exact ⟨fun e => absurd e (by decide), fun e => absurd e (by decide), fun _ _ => rfl⟩
    · exact ⟨fun e => absurd e (by decide), fun e => absurd e (by decide), fun _ _ => rfl⟩
    · exact ⟨fun _ => ⟨rfl, rfl⟩, fun e => absurd e (by decide), fun e => absurd rfl e⟩
    · exact ⟨fun e => absurd e (by decide), fun _ => ⟨rfl, rfl⟩, fun _ e => absurd rfl e⟩
theorem step_PS {c : Nat} (hc : c < 127) {fr to un tp : Nat → Int32} {en sta tn trd tv tdg tf tla : Int32} {j : Nat} (hj : j ≤ 60) (hpi : PI j sta en) (h : PS fr to un en sta tp tn trd tv tdg tf tla) :
    (F_5takes (nI c) fr to un en sta = 0 ∧ F_1accepts c trd tv tdg tf = 0) ∨
    (F_5takes (nI c) fr to un en sta ≠ 0 ∧ F_1accepts c trd tv tdg tf ≠ 0 ∧ PS (F_5takes_fr (nI c) fr en sta) (F_5takes_to (nI c) fr to en sta) (F_5takes_un (nI c) un en sta) (F_5takes_en (nI c) en sta) (F_5takes_sta (nI c) fr to un en sta) (F_1accepts_tp c tp tn trd tv tdg tf tla) (F_1accepts_tn c tn trd tv tdg tf) (F_1accepts_trd c trd tv tdg tf) (F_1accepts_tv c trd tv tdg tf) (F_1accepts_tdg c trd tv tdg tf) (F_1accepts_tf c trd tv tdg tf) (F_1accepts_tla c trd tv tdg tf tla)) := by
  obtain ⟨n, rfl, hn, hrow, hcase, hpa⟩ := h
  have en : (nI n).toNatClampNeg = n := nI_clamp (by omega)
  have ho := step_A hc hpa
  have t1 := tk_c (nI c) fr to un (nI n) sta
  have t2 := tk_s (nI c) fr to un (nI n) sta
  have t3 := tk_fr (nI c) fr (nI n) sta
  have t4 := tk_to (nI c) fr to (nI n) sta
  have t5 := tk_un (nI c) un (nI n) sta
  rw [en] at t1 t2 t3 t4 t5
  unfold Out at ho
  rw [← t1, ← t2, ← t3, ← t4, ← t5] at ho
  rcases ho with ho | ⟨o1, o2, o3⟩
  · exact Or.inl ho
  refine Or.inr ⟨o1, o2, ?_⟩
  have hr : ∀ (tp' : Nat → Int32), (∀ e, e < n → ∀ k, k < 3 → tp' (e * 3 + k) = tp (e * 3 + k)) → ∀ e, e < n → Row (F_5takes_fr (nI c) fr (nI n) sta) (F_5takes_to (nI c) fr to (nI n) sta) (F_5takes_un (nI c) un (nI n) sta) tp' e := by
    intro tp' h4 e he
    exact (hrow e he).cg (tk_fr_ne _ _ _ _ e (by omega)) (tk_to_ne _ _ _ _ _ e (by omega)) (tk_un_ne _ _ _ _ e (by omega)) (h4 e he)
  obtain ⟨p1, p2, p3, p4⟩ := hpi
  by_cases h10 : sta = nI 10
  · subst h10
    have hc44 : c = 44 := by
      refine Classical.byContradiction fun q => o1 ?_
      show (if nI c = nI 44 then nI 1 else nI 0) = 0
      rw [if_neg (by rw [nI_eq (by omega) (by omega)]; exact q)]
      rfl
    subst hc44
    have e1 : F_5takes_sta (nI 44) fr to un (nI n) (nI 10) = nI 0 := rfl
    rw [e1] at o3 ⊢
    obtain ⟨z1, z2, z3⟩ := PA_0 o3
    have e2 : F_5takes_en (nI 44) (nI n) (nI 10) = nI (n + 1) := by
      show nI ((nI n).toNatClampNeg) + nI 1 = _
      rw [en, nI_add]
    rw [e2, z1, z2, z3]
    rw [en] at p4
    have e3 : mnS (nI 10).toNatClampNeg = 6 := rfl
    rw [e3] at p4
    rcases hcase with q | ⟨-, q2, q3⟩
    · exact absurd rfl q.1
    refine ⟨n + 1, rfl, by omega, ?_, Or.inl ⟨by decide, q2⟩, PA_of0 _ _ _ _ _⟩
    intro e he
    by_cases q : e = n
    · subst q
      exact q3
    · exact hrow e (by omega)
  · have h10n : sta.toNatClampNeg ≠ 10 := fun q => h10 (by rw [p1, q])
    obtain ⟨c1, c2⟩ : sta ≠ nI 10 ∧ tn = nI n := by
      rcases hcase with q | q
      · exact q
      · exact absurd q.1 h10
    have e2 : F_5takes_en (nI c) (nI n) sta = nI n := by
      unfold F_5takes_en
      rw [if_neg (show ¬ 10 ≤ sta.toNatClampNeg by omega)]
      (repeat' split) <;> rfl
    rw [e2]
    by_cases h9 : sta = nI 9
    · obtain ⟨z1, z2⟩ := (PA_9 hpa).1 h9
      subst h9
      subst z1
      subst z2
      have e3 : F_5takes_sta (nI c) fr to un (nI n) (nI 9) = nI 10 := by
        show F_5goesOn_sta (wi (nI c - nI 48) (nI 0) (nI 9)) (nI 10) (nI 9) = nI 10
        unfold F_5goesOn_sta
        rw [if_neg (show ¬ wi (nI c - nI 48) (nI 0) (nI 9) = 0 from o1)]
      rw [e3] at o3 ⊢
      obtain ⟨k1, k2⟩ := tp_add o2 tp tn tla
      obtain ⟨w1, w2⟩ := (PA_10 o3).2 rfl
      rw [k1, k2, c2]
      have e4 : F_1keepPart_tn (nI n) = nI (n + 1) := by
        unfold F_1keepPart_tn
        rw [en, nI_add]
      rw [e4, keep_at hn]
      refine ⟨n, rfl, hn, hr _ ?_, Or.inr ⟨rfl, rfl, ?_⟩, o3⟩
      · intro e he k hk
        rw [upd_ne (by omega), upd_ne (by omega), upd_ne (by omega)]
      · obtain ⟨v1, v2, v3, v4, v5⟩ := w2
        rw [tf_2] at v4
        rw [tla_2] at v5
        refine ⟨?_, ?_, ?_, v1, v2, v3⟩
        · rw [upd_ne (by omega), upd_ne (by omega), upd_eq]
          exact v4
        · rw [upd_ne (by omega), upd_eq]
          exact v5
        · rw [upd_eq]
          exact w1
    · have h9n : sta.toNatClampNeg ≠ 9 := fun q => h9 (by rw [p1, q])
      obtain ⟨k1, k2⟩ := tp_keep ((PA_9 hpa).2.2 h9 h10) c tp tn tv tf tla
      rw [k1, k2]
      refine ⟨n, rfl, hn, hr _ (fun _ _ _ _ => rfl), Or.inl ⟨?_, c2⟩, o3⟩
      intro q
      rw [en] at p4
      have hm : mnS sta.toNatClampNeg ≤ 4 := by
        generalize sta.toNatClampNeg = y at *
        unfold mnS
        split
        · omega
        split <;> omega
      have := takes_inv (c := nI c) (fr := fr) (to := to) (un := un) (j := 7 * n + mnS sta.toNatClampNeg) (by omega) ⟨p1, p2, p3, by rw [en]; omega⟩
      rw [e2] at this
      obtain ⟨-, -, -, i4⟩ := this
      rw [q, en] at i4
      have e3 : mnS (nI 10).toNatClampNeg = 6 := rfl
      omega
theorem read_W {q : Nat} {te tc : Nat → Int32} (hq : q ≤ 60) (hcd : ∀ k, k < q → tc k = te k ∧ ∃ c : Nat, c < 127 ∧ te k = nI c) : ∀ (f j : Nat) (fr to un : Nat → Int32) (en sta : Int32) (tp : Nat → Int32) (tn trd tv tdg tf tla : Int32), j + f = q → PI j sta en → PS fr to un en sta tp tn trd tv tdg tf tla →
    (W_5read_12 te f j fr to un en sta).1 = (W_1read_12 q tc f j tp tn trd tv tdg tf tla).1 ∧ ((W_5read_12 te f j fr to un en sta).1 = nI q → PS (W_5read_12 te f j fr to un en sta).2.1 (W_5read_12 te f j fr to un en sta).2.2.1 (W_5read_12 te f j fr to un en sta).2.2.2.1 (W_5read_12 te f j fr to un en sta).2.2.2.2.1 (W_5read_12 te f j fr to un en sta).2.2.2.2.2 (W_1read_12 q tc f j tp tn trd tv tdg tf tla).2.1 (W_1read_12 q tc f j tp tn trd tv tdg tf tla).2.2.1 (W_1read_12 q tc f j tp tn trd tv tdg tf tla).2.2.2.1 (W_1read_12 q tc f j tp tn trd tv tdg tf tla).2.2.2.2.1 (W_1read_12 q tc f j tp tn trd tv tdg tf tla).2.2.2.2.2.1 (W_1read_12 q tc f j tp tn trd tv tdg tf tla).2.2.2.2.2.2.1 (W_1read_12 q tc f j tp tn trd tv tdg tf tla).2.2.2.2.2.2.2) := by
  intro f
  induction f with
  | zero =>
    intro j fr to un en sta tp tn trd tv tdg tf tla hj hpi hps
    rw [Nat.add_zero] at hj
    subst hj
    rw [W_5read_12, W_1read_12]
    exact ⟨rfl, fun _ => hps⟩
  | succ f ih =>
    intro j fr to un en sta tp tn trd tv tdg tf tla hj hpi hps
    obtain ⟨h1, c, hc, h2⟩ := hcd j (by omega)
    have ec : (nI c).toNatClampNeg = c := nI_clamp (by omega)
    rw [W_5read_12, W_1read_12, h1, h2, ec]
    have hp2 := takes_inv (c := nI c) (fr := fr) (to := to) (un := un) (by omega) hpi
    rcases step_PS hc (by omega) hpi hps with ⟨o1, o2⟩ | ⟨o1, o2, o3⟩
    · rw [if_pos o1, if_pos o2]
      refine ⟨rfl, fun e => ?_⟩
      have e' : nI j = nI q := e
      rw [nI_eq (by omega) (by omega)] at e'
      omega
    · rw [if_neg o1, if_neg o2]
      exact ih (j + 1) _ _ _ _ _ _ _ _ _ _ _ _ (by omega) hp2 o3
/-- the two readers of a text -/
theorem e_read {q : Nat} {te tc : Nat → Int32} (hq : q ≤ 60) (hcd : ∀ k, k < q → tc k = te k ∧ ∃ c : Nat, c < 127 ∧ te k = nI c) (fr to un tp : Nat → Int32) (tf tla : Int32) :
    F_5read q te fr to un = F_1read q tc tp tf tla ∧ (F_5read q te fr to un = nI q → PS (F_5read_fr q te fr to un) (F_5read_to q te fr to un) (F_5read_un q te fr to un) (F_5read_en q te fr to un) (F_5read_sta q te fr to un) (F_1read_tp q tc tp tf tla) (F_1read_tn q tc tp tf tla) (F_1read_trd q tc tp tf tla) (F_1read_tv q tc tp tf tla) (F_1read_tdg q tc tp tf tla) (F_1read_tf q tc tp tf tla) (F_1read_tla q tc tp tf tla)) :=
  read_W hq hcd q 0 fr to un (nI 0) (nI 0) tp (nI 0) (F_1begin_trd (nI 0)) F_1begin_tv F_1begin_tdg tf tla (by omega) ⟨rfl, by decide, rfl, by decide⟩ ⟨0, rfl, by omega, fun e he => absurd he (by omega), Or.inl ⟨by decide, rfl⟩, Or.inl rfl⟩
end PA5
