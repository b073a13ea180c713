section PA3
theorem d48 {c : Nat} (h : 48 ≤ c) : nI c - nI 48 = nI (c - 48) := pk_sub h
theorem ps_5 : ∀ f : Fin 39, ∀ t : Fin 40, 10 ≤ t.val → f.val < t.val → pS 58 (nI 5) (nI f.val) (nI t.val) (nI 1) (nI t.val) (nI 2) (nI f.val) = true := by decide +kernel
theorem ac_5n {c f t : Nat} (hf : f < 39) (h1 : 10 ≤ t) (ht : t < 40) (h : c ≠ 58) : F_1accepts c (nI 1) (nI t) (nI 2) (nI f) = 0 := by
  unfold F_1accepts
  split
  · rfl
  split
  · rfl
  split
  · rfl
  split
  · rfl
  have e : F_1acceptsDigit (nI c - nI 48) (nI 1) (nI t) (nI 2) (nI f) = 0 := by
    rw [d48 (by omega)]
    exact ac_5 ⟨f, hf⟩ ⟨t, ht⟩ h1 ⟨c - 48, by omega⟩
  rw [if_pos e]
  rfl
theorem rf_5 {c : Nat} (hc : c < 127) (h : c ≠ 58) (fr to un : Nat → Int32) : F_5takes (nI c) fr to un 0 (nI 5) = 0 := by
  show F_5takesSecond (nI c) fr to 0 (nI 5) = 0
  have e : (nI 5).toNatClampNeg = 5 := rfl
  unfold F_5takesSecond
  rw [e, if_neg (by decide : ¬ (5 = 3)), if_neg (by decide : ¬ (5 = 4)), if_neg (by rw [nI_eq (by omega) (by omega)]; exact h)]
  rfl
theorem o5 {c f t : Nat} (hf : f < 39) (hft : f < t) (h1 : 10 ≤ t) (ht : t < 40) (hc : c < 127) (u tla : Int32) : Out c (nI 5) (nI f) (nI t) u (nI 1) (nI t) (nI 2) (nI f) tla := by
  by_cases h : c = 58
  · subst h
    exact pS_out (ps_5 ⟨f, hf⟩ ⟨t, ht⟩ h1 hft) rfl rfl (Or.inl rfl)
  · exact Or.inl ⟨rf_5 hc h _ _ _, ac_5n hf h1 ht h⟩
theorem ac_10n {c u : Nat} (hu : 1800 ≤ u) (hu2 : u < 2200) (h : c ≠ 44) (tf : Int32) : F_1accepts c (nI 2) (nI u) (nI 4) tf = 0 := by
  unfold F_1accepts
  rw [if_neg h]
  split
  · rfl
  split
  · rfl
  split
  · rfl
  split
  · rfl
  have e : F_1acceptsDigit (nI c - nI 48) (nI 2) (nI u) (nI 4) tf = 0 := by
    rw [d48 (by omega)]
    have := ac_10 ⟨u - 1800, by omega⟩ ⟨c - 48, by omega⟩
    have e2 : 1800 + (u - 1800) = u := by omega
    simp only [e2] at this
    exact this
  rw [if_pos e]
  rfl
theorem o10 {c u : Nat} (hu : 1800 ≤ u) (hu2 : u < 2200) (hc : c < 127) (f t tf tla : Int32) : Out c (nI 10) f t (nI u) (nI 2) (nI u) (nI 4) tf tla := by
  by_cases h : c = 44
  · subst h
    refine Or.inr ⟨?_, ?_, Or.inl rfl⟩
    · show nI 1 ≠ 0
      decide
    · show nI 1 ≠ 0
      decide
  · refine Or.inl ⟨?_, ac_10n hu hu2 h tf⟩
    show (if nI c = nI 44 then nI 1 else nI 0) = 0
    rw [if_neg (by rw [nI_eq (by omega) (by omega)]; exact h)]
    rfl
theorem tf_2 (c : Nat) (tv tdg tf : Int32) : F_1accepts_tf c (nI 2) tv tdg tf = tf := by
  have e1 : F_1acceptsDash_tf (nI 2) tv tdg tf = tf := rfl
  have e2 : F_1acceptsColon_tf (nI 2) tv tdg tf = tf := rfl
  unfold F_1accepts_tf
  rw [e1, e2]
  (repeat' split) <;> rfl
theorem tla_2 (c : Nat) (tv tdg tf tla : Int32) : F_1accepts_tla c (nI 2) tv tdg tf tla = tla := by
  have e2 : F_1acceptsColon_tla (nI 2) tv tdg tf tla = tla := rfl
  unfold F_1accepts_tla
  rw [e2]
  (repeat' split) <;> rfl
theorem pU_out {c : Nat} {sta f t u0 u tv tdg tf tla lo hi : Int32} (h : pU c sta u tv tdg lo hi = true)
    (hu : F_5takes (nI c) (fun _ => f) (fun _ => t) (fun _ => u0) 0 sta = F_5takesYear (nI c) (fun _ => u) 0 sta)
    (hus : F_5takes_sta (nI c) (fun _ => f) (fun _ => t) (fun _ => u0) 0 sta = F_5takesYear_sta (nI c) (fun _ => u) 0 sta)
    (huu : F_5takes_un (nI c) (fun _ => u0) 0 sta 0 = F_5takesYear_un (nI c) (fun _ => u) 0 sta 0)
    (huf : F_5takes_fr (nI c) (fun _ => f) 0 sta 0 = f) (hut : F_5takes_to (nI c) (fun _ => f) (fun _ => t) 0 sta 0 = t)
    (hz : ∀ x, lo ≤ x → x ≤ hi → pZ (sta + nI 1) x (nI 2) x (tdg + nI 1)) (hw : pW f t tf tla) : Out c sta f t u0 (nI 2) tv tdg tf tla := by
  obtain ⟨a1, a2, a3, a4⟩ := ac_2 c tv tdg tf
  unfold Out
  rw [hu, hus, huu, huf, hut, tf_2, tla_2, a1, a2, a3, a4]
  unfold pU at h
  by_cases q : F_5takesYear (nI c) (fun _ => u) 0 sta = 0
  · rw [if_pos q] at h
    exact Or.inl ⟨q, eq_of_beq h⟩
  · rw [if_neg q] at h
    simp only [Bool.and_eq_true, decide_eq_true_eq, beq_iff_eq] at h
    obtain ⟨⟨⟨⟨⟨⟨h1, h2⟩, h3⟩, h4⟩, h5⟩, h6⟩, h7⟩ := h
    refine Or.inr ⟨q, ?_, Or.inr (Or.inr ⟨?_, hw⟩)⟩
    · intro e
      rw [e] at h1
      exact absurd h1 (by decide)
    · rw [h2, h3, h4, h5]
      exact hz _ h6 h7
theorem o6 {c : Nat} (hc : c < 127) {f t tf tla : Int32} (u : Int32) (hw : pW f t tf tla) : Out c (nI 6) f t u (nI 2) 0 0 tf tla := pU_out (ps_6 ⟨c, hc⟩) rfl rfl rfl rfl rfl (fun x h1 h2 => ⟨rfl, rfl, Or.inl ⟨rfl, rfl, h1, h2⟩⟩) hw
theorem o7 {c u : Nat} (hc : c < 127) {f t tf tla : Int32} (h1 : 1 ≤ u) (h2 : u < 3) (hw : pW f t tf tla) : Out c (nI 7) f t (nI u) (nI 2) (nI u) (nI 1) tf tla := pU_out (ps_7 ⟨u, h2⟩ h1 ⟨c, hc⟩) rfl rfl rfl rfl rfl (fun x h1 h2 => ⟨rfl, rfl, Or.inr (Or.inl ⟨rfl, rfl, h1, h2⟩)⟩) hw
theorem o8 {c u : Nat} (hc : c < 127) {f t tf tla : Int32} (h1 : 18 ≤ u) (h2 : u < 22) (hw : pW f t tf tla) : Out c (nI 8) f t (nI u) (nI 2) (nI u) (nI 2) tf tla := pU_out (ps_8 ⟨u, h2⟩ h1 ⟨c, hc⟩) rfl rfl rfl rfl rfl (fun x h1 h2 => ⟨rfl, rfl, Or.inr (Or.inr (Or.inl ⟨rfl, rfl, h1, h2⟩))⟩) hw
theorem o9 {c u : Nat} (hc : c < 127) {f t tf tla : Int32} (h1 : 180 ≤ u) (h2 : u < 220) (hw : pW f t tf tla) : Out c (nI 9) f t (nI u) (nI 2) (nI u) (nI 3) tf tla := by
  have h := ps_9 ⟨u - 180, by omega⟩ ⟨c, hc⟩
  have e2 : 180 + (u - 180) = u := by omega
  simp only [e2] at h
  exact pU_out h rfl rfl rfl rfl rfl (fun x h1 h2 => ⟨rfl, rfl, Or.inr (Or.inr (Or.inr ⟨rfl, rfl, h1, h2⟩))⟩) hw
/-- one step of both readers, at any state -/
theorem step_A {c : Nat} (hc : c < 127) {sta f t u trd tv tdg tf tla : Int32} (h : PA sta f t u trd tv tdg tf tla) : Out c sta f t u trd tv tdg tf tla := by
  rcases h with h | h | h
  · rcases pR_cases h with q | q | q | q | q | q
    · obtain ⟨rfl, rfl, rfl, rfl⟩ := q
      exact o0 hc f t u tf tla
    · obtain ⟨rfl, a, b, rfl, rfl, rfl, rfl⟩ := q
      obtain ⟨k, hk, rfl⟩ := n_of (by decide) a b
      exact o1 hk hc u tf tla
    · obtain ⟨rfl, a, b, rfl, rfl, rfl, rfl⟩ := q
      obtain ⟨k, h1, hk, rfl⟩ := n_ofb (by decide) (by decide) a b
      exact o2 h1 hk hc u tf tla
    · obtain ⟨rfl, a, b, rfl, rfl, rfl, rfl, rfl⟩ := q
      obtain ⟨k, hk, rfl⟩ := n_of (by decide) a b
      exact o3 hk hc u tla
    · obtain ⟨rfl, a, b, a2, b2, rfl, rfl, rfl, rfl⟩ := q
      obtain ⟨k, hk, rfl⟩ := n_of (by decide) a b
      obtain ⟨m, h1, hm, rfl⟩ := n_ofb (by decide) (by decide) a2 b2
      exact o4 hk h1 hm hc u tla
    · obtain ⟨rfl, a, ab, a2, b2, rfl, rfl, rfl, rfl⟩ := q
      obtain ⟨m, h1, hm, rfl⟩ := n_ofb (by decide) (by decide) a2 b2
      obtain ⟨k, hk, rfl⟩ := n_of (by omega) a ab
      exact o5 (by omega) hk h1 hm hc u tla
  · obtain ⟨rfl, rfl, rfl, rfl, hw⟩ := h
    exact o6 hc u hw
  · obtain ⟨⟨rfl, rfl, hz⟩, hw⟩ := h
    rcases hz with ⟨rfl, rfl, a, b⟩ | ⟨rfl, rfl, a, b⟩ | ⟨rfl, rfl, a, b⟩ | ⟨rfl, rfl, a, b⟩
    · obtain ⟨k, h1, hk, rfl⟩ := n_ofb (a := 1) (b := 3) (by decide) (by decide) a (by rw [Int32.lt_iff_toInt_lt]; rw [Int32.le_iff_toInt_le] at b; exact Int.lt_of_le_of_lt b (by decide))
      exact o7 hc h1 hk hw
    · obtain ⟨k, h1, hk, rfl⟩ := n_ofb (a := 18) (b := 22) (by decide) (by decide) a (by rw [Int32.lt_iff_toInt_lt]; rw [Int32.le_iff_toInt_le] at b; exact Int.lt_of_le_of_lt b (by decide))
      exact o8 hc h1 hk hw
    · obtain ⟨k, h1, hk, rfl⟩ := n_ofb (a := 180) (b := 220) (by decide) (by decide) a (by rw [Int32.lt_iff_toInt_lt]; rw [Int32.le_iff_toInt_le] at b; exact Int.lt_of_le_of_lt b (by decide))
      exact o9 hc h1 hk hw
    · obtain ⟨k, h1, hk, rfl⟩ := n_ofb (a := 1800) (b := 2200) (by decide) (by decide) a (by rw [Int32.lt_iff_toInt_lt]; rw [Int32.le_iff_toInt_le] at b; exact Int.lt_of_le_of_lt b (by decide))
      exact o10 h1 hk hc f t tf tla
end PA3
