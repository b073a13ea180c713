/-! ACTS: ways, minutes -/
section ACTS2
variable {E : AE} {o0 u0 l0 : List AC} {pg ph pc : Nat → Int32} {pm : Int32} {T K : Nat → Nat → Int32} {os sc : Int32} {tc tp : Nat → Int32} {tl_ tn trd tv tdg tf tla : Int32} {V S N B R A O st C z : Nat → Int32} {nv nc nr ne t b : Nat}
theorem rs_0 {v c r : Nat} (h : ¬ 0 < rsZ z nv ne v c r) : rsZ z nv ne v c r = 0 := by
  unfold rsZ at h ⊢
  by_cases h0 : 0 < z (11 + 7 * v + 5)
  · rw [if_pos h0] at h; exact absurd (show (0 : Int32) < nI 1 by decide) h
  rw [if_neg h0] at h ⊢
  by_cases h1 : 0 < z (11 + 7 * v + 6)
  · rw [if_pos h1] at h; exact absurd (show (0 : Int32) < nI 2 by decide) h
  rw [if_neg h1] at h ⊢
  by_cases h2 : vo z (nI c) nv ≠ none
  · rw [if_pos h2] at h; exact absurd (show (0 : Int32) < nI 3 by decide) h
  rw [if_neg h2] at h ⊢
  by_cases h3 : z (95 + 4 * c + 0) < z (11 + 7 * v + 1)
  · rw [if_pos h3] at h; exact absurd (show (0 : Int32) < nI 4 by decide) h
  rw [if_neg h3] at h ⊢
  by_cases h4 : z (95 + 4 * c + 1) < z (11 + 7 * v + 3)
  · rw [if_pos h4] at h; exact absurd (show (0 : Int32) < nI 5 by decide) h
  rw [if_neg h4] at h ⊢
  by_cases h5 : nlO z v (lv z v) = none
  · rw [if_pos h5] at h; exact absurd (show (0 : Int32) < nI 6 by decide) h
  rw [if_neg h5] at h ⊢
  by_cases h6 : 0 < z (111 + 4 * r + 1)
  · rw [if_pos h6] at h; exact absurd (show (0 : Int32) < nI 7 by decide) h
  rw [if_neg h6] at h ⊢
  by_cases h7 : ne = 60
  · rw [if_pos h7] at h; exact absurd (show (0 : Int32) < nI 8 by decide) h
  rw [if_neg h7] at h ⊢
  rfl
theorem rs_c {v c r : Nat} (h : rsZ z nv ne v c r = 0) : ¬ 0 < z (11 + 7 * v + 5) ∧ vo z (nI c) nv = none := by
  unfold rsZ at h
  by_cases h1 : 0 < z (11 + 7 * v + 5)
  · rw [if_pos h1] at h; exact absurd h (by decide)
  rw [if_neg h1] at h
  by_cases h2 : 0 < z (11 + 7 * v + 6)
  · rw [if_pos h2] at h; exact absurd h (by decide)
  rw [if_neg h2] at h
  by_cases h3 : vo z (nI c) nv ≠ none
  · rw [if_pos h3] at h; exact absurd h (by decide)
  exact ⟨h1, Classical.not_not.mp h3⟩
/-- a carrier's way -/
theorem lz_G {v r c : Nat} {P P' g W : Int32} (w : WZ z nv nc nr ne) (q : LZ V S N B R A O st C z nv nc nr ne) (hx : LX z nv) (hv : v < nv) (hr : r < nr) (hc : c < 2) (he : ne < 12) (eP : P' = P - nI 1) : LZ (upd (upd V ((7 * v) + 5) P') ((7 * v) + 6) W) S N B (upd R ((4 * c) + 2) (nI (0))) (upd (upd (upd (upd A (4 * r) (V (7 * v))) ((4 * r) + 1) W) ((4 * r) + 2) ((A ((4 * r) + 2)) + (nI (1)))) ((4 * r) + 3) ((A ((4 * r) + 3)) + W)) (upd (upd (upd (upd (upd O (5 * ne) (C 3)) ((5 * ne) + 1) (nI (r))) ((5 * ne) + 2) (nI (v))) ((5 * ne) + 3) g) ((5 * ne) + 4) W) st (upd C 5 (nI ((ne + 1)))) (zG v r ne c P g W z) nv nc nr (ne + 1) ∧ LX (zG v r ne c P g W z) nv ∧ zG v r ne c P g W z 3 = z 3 := by
  obtain ⟨⟨q1, q2, q3, q4, q5, q6, q7, q8, q9⟩, r1, r2, r3, r4, r5, r6, r7⟩ := q
  obtain ⟨g5, gw, gp, gy, ⟨ga0, ga1, ga2, ga3⟩, ⟨ge0, ge1, ge2, ge3, ge4⟩, gn⟩ := zG_at (z := z) (P := P) (g := g) (W := W) (v := v) (r := r) (c := c) (ne := ne) (by omega) (by omega) (by omega) (by omega)
  have ne_ : ∀ {i : Nat}, i ≠ 5 → i ≠ 95 + 4 * c + 2 → i ≠ 11 + 7 * v + 5 → i ≠ 11 + 7 * v + 6 → (∀ k, k < 4 → i ≠ 111 + 4 * r + k) → (∀ k, k < 5 → i ≠ 123 + 5 * ne + k) → zG v r ne c P g W z i = z i := fun h1 h2 h3 h4 h5 h6 => gn _ h1 h2 h3 h4 h5 h6
  refine ⟨⟨⟨fun k hk => ?_, fun u x hu hxx h5 => ?_, fun u hu => ?_, fun u k hu hk => ?_, fun u k hu hk => ?_, fun c' u hc' hu => ?_, fun u hu => ?_, q8, q9⟩, fun k hk => ?_, fun u k hu hk => ?_, fun r' u hr' hu => ?_, fun e u he' hu => ?_, r5, by omega, fun u hu => ?_⟩, hx.of (fun u hu => ne_ (by omega) (by omega) (by omega) (by omega) (by omega) (by omega)) (fun i hi => ne_ (by omega) (by omega) (by omega) (by omega) (by omega) (by omega)), ne_ (by omega) (by omega) (by omega) (by omega) (by omega) (by omega)⟩
  · rw [ne_ (by omega) (by omega) (by omega) (by omega) (by omega) (by omega)]; exact q1 k hk
  · by_cases e : u = v ∧ x = 6
    · obtain ⟨rfl, rfl⟩ := e
      rw [upd_eq, gy]
    · rw [upd_ne (by omega), upd_ne (by omega), ne_ (by omega) (by omega) (by omega) (by omega) (by omega) (by omega)]
      exact q2 u x hu hxx h5
  · by_cases e : u = v
    · subst e
      rw [upd_ne (by omega), upd_eq, gp, eP]
    · rw [upd_ne (by omega), upd_ne (by omega), ne_ (by omega) (by omega) (by omega) (by omega) (by omega) (by omega)]
      exact q3 u hu
  · rw [ne_ (by omega) (by omega) (by omega) (by omega) (by omega) (by omega)]; exact q4 u k hu hk
  · rw [ne_ (by omega) (by omega) (by omega) (by omega) (by omega) (by omega)]; exact q5 u k hu hk
  · by_cases e : c' = c ∧ u = 2
    · obtain ⟨rfl, rfl⟩ := e
      rw [upd_eq, gw]
    · rw [upd_ne (by omega), ne_ (by omega) (by omega) (by omega) (by omega) (by omega) (by omega)]
      exact q6 c' u hc' hu
  · rw [lv_of (ne_ (by omega) (by omega) (by omega) (by omega) (by omega) (by omega))]; exact q7 u hu
  · by_cases e : k = 5
    · subst e; rw [upd_eq, g5]
    · rw [upd_ne e, ne_ e (by omega) (by omega) (by omega) (by omega) (by omega)]; exact r1 k hk
  · rw [ne_ (by omega) (by omega) (by omega) (by omega) (by omega) (by omega)]; exact r2 u k hu hk
  · by_cases e : r' = r
    · subst e
      have hV : V (7 * v) = z (11 + 7 * v + 0) := q2 v 0 (by omega) (by omega) (by omega)
      have e2 : A (4 * r' + 2) = z (111 + 4 * r' + 2) := r3 r' 2 hr' (by omega)
      have e3 : A (4 * r' + 3) = z (111 + 4 * r' + 3) := r3 r' 3 hr' (by omega)
      obtain rfl | rfl | rfl | rfl : u = 0 ∨ u = 1 ∨ u = 2 ∨ u = 3 := by omega
      · rw [upd_ne (by omega), upd_ne (by omega), upd_ne (by omega), show 4 * r' + 0 = 4 * r' from rfl, upd_eq, ga0, hV]
      · rw [upd_ne (by omega), upd_ne (by omega), upd_eq, ga1]
      · rw [upd_ne (by omega), upd_eq, ga2, e2]
      · rw [upd_eq, ga3, e3]
    · rw [upd_ne (by omega), upd_ne (by omega), upd_ne (by omega), upd_ne (by omega), ne_ (by omega) (by omega) (by omega) (by omega) (by omega) (by omega)]
      exact r3 r' u hr' hu
  · by_cases e9 : e = ne
    · subst e9
      obtain rfl | rfl | rfl | rfl | rfl : u = 0 ∨ u = 1 ∨ u = 2 ∨ u = 3 ∨ u = 4 := by omega
      · rw [upd_ne (by omega), upd_ne (by omega), upd_ne (by omega), upd_ne (by omega), show 5 * e + 0 = 5 * e from rfl, upd_eq, ge0]
        exact r1 3 (by omega)
      · rw [upd_ne (by omega), upd_ne (by omega), upd_ne (by omega), upd_eq, ge1]
      · rw [upd_ne (by omega), upd_ne (by omega), upd_eq, ge2]
      · rw [upd_ne (by omega), upd_eq, ge3]
      · rw [upd_eq, ge4]
    · rw [upd_ne (by omega), upd_ne (by omega), upd_ne (by omega), upd_ne (by omega), upd_ne (by omega), ne_ (by omega) (by omega) (by omega) (by omega) (by omega) (by omega)]
      exact r4 e u he' hu
  · rw [lv_of (ne_ (by omega) (by omega) (by omega) (by omega) (by omega) (by omega))]; exact r7 u hu
theorem way_q (w : WZ z nv nc nr ne) (q : LZ V S N B R A O st C z nv nc nr ne) {v r : Nat} (hv : v < nv) (hr : r < 2) : F_Lway v r V A st = wayZ z v r := by
  obtain ⟨p, hp', ep⟩ := (w.vol v hv).1
  obtain ⟨q', hq', eq'⟩ := (w.car r (by omega)).1
  exact way_eq q.1 (by have := q.1.n4; omega) (q.ca r 0 hr (by omega)) hp' hq' ep eq'
theorem act_W {d w x y : Nat} (s : SS T os sc V S N B R A O st C z nv nc nr ne t b) (hx : x < 2147483648) (hy : y < 2147483648) (hn0 : 0 < nv) (hn1 : 0 < nc) (hn2 : 0 < nr) (hw3 : 3 ≤ w) (hw8 : w < 8) : ACTR E d w x y o0 u0 l0 pg ph pc pm T K os sc tc tp tl_ tn trd tv tdg tf tla V S N B R A O st C nv nc nr (t + 200) := by
  obtain ⟨h, wz, q, lx, h3, ⟨a, ha, hos⟩, hsc, hb, hb1⟩ := id s
  have h4 := q.1.n4
  have h2 := q.1.n2
  have hr2 := q.r2
  have h12 := q.e12
  have hcc := q.cc
  have hc0 : C 0 = nI nv := (hcc 0 (by omega)).trans wz.nv.1
  have hc1 : C 1 = nI nc := (hcc 1 (by omega)).trans wz.nc.1
  have hc2 : C 2 = nI nr := (hcc 2 (by omega)).trans wz.nr.1
  have hc5 : C 5 = nI ne := (hcc 5 (by omega)).trans wz.ne.1
  have hv : x / 2 % nv < nv := Nat.mod_lt _ hn0
  have hk : y / 2 % nc < nc := Nat.mod_lt _ hn1
  have he : y / 2 ^ 3 / 2 % nr < nr := Nat.mod_lt _ hn2
  have hy0 := why_eq wz q.1 q.ca hr2 h12 hv hk he
  by_cases hy1 : 0 < F_Lwhy (x / 2 % nv) (y / 2 % nc) (y / 2 ^ 3 / 2 % nr) nv V S R A
  · exact act_skip s (s_LactW1 d w x y (TI_RT h wz) hc0 h4 hc1 h2 hc2 hr2 hc5 h12 (q.1.hL wz.lv) hx hy hos ha hsc hb hn0 hn1 hn2 hw3 rfl rfl rfl hv hk he hw8 hy1)
  · by_cases hne : ne = 12
    · exact act_skip s (s_LactW2 d w x y (TI_RT h wz) hc0 h4 hc1 h2 hc2 hr2 hc5 h12 (q.1.hL wz.lv) hx hy hos ha hsc hb hn0 hn1 hn2 hw3 rfl rfl rfl hv hk he hw8 hy1 hne)
    · have h0 := rs_0 (z := z) (by rw [← hy0]; exact hy1)
      obtain ⟨hp1, hno⟩ := rs_c h0
      have hr0 : F_0reasonAgainst (x / 2 % nv) (y / 2 % nc) (y / 2 ^ 3 / 2 % nr) ne T = 0 := (e_reason h wz hv hk (by omega)).trans h0
      have hpl : z (11 + 7 * (x / 2 % nv) + 5) = nI 0 := by
        obtain ⟨p, hp', ep⟩ := (wz.vol _ hv).2.2.2.1
        rw [ep, nI_ps (by have := wz.nc.2; omega)] at hp1
        rw [ep, show p = 0 by omega]
      obtain ⟨m0, m1, m2⟩ := mut_bring h wz hv he hk (by omega) hpl hno
      have hway := way_q wz q hv (r := y / 2 ^ 3 / 2 % nr) (by omega)
      obtain ⟨n1, n2, n3⟩ := lz_G (P := nI (y / 2 % nc + 1)) (P' := nI (y / 2 % nc)) (g := nI (y / 2 % nc)) (W := wayZ z (x / 2 % nv) (y / 2 ^ 3 / 2 % nr)) wz q lx hv he (c := y / 2 % nc) (by omega) (by omega) (nI_p1 _).symm
      obtain ⟨b', p1, p2, p3, p4⟩ := sv_ok ha hb hos hsc
      rw [← goesA_g] at n1 n2 n3
      have hc := s_LactW3 (E := E) (o0 := o0) (u0 := u0) (l0 := l0) (pg := pg) (ph := ph) (pc := pc) (pm := pm) (tc := tc) (tp := tp) (tl_ := tl_) (tn := tn) (trd := trd) (tv := tv) (tdg := tdg) (tf := tf) (tla := tla) (K := K) (ln := N) (lb := B) (lo := O) d w x y (TI_RT h wz) hc0 h4 hc1 h2 hc2 hr2 hc5 h12 (q.1.hL wz.lv) hx hy hos ha hsc hb hn0 hn1 hn2 hw3 rfl rfl rfl hv hk he hw8 hy1 (by omega) hr0 (m0.trans hway.symm)
      unfold F_LactW3_vo F_LactW3_ca F_LactW3_lo F_LgoesA_vo F_LgoesA_ca F_LgoesA_lo at hc
      rw [hway] at hc
      exact ⟨_, _, _, _, _, _, _, _, _, _, _, _, _, _, _, _, _, _, _, _, _, _, _, _, _, _, _, t, b', hc, ⟨m1, m2, n1, n2, n3.trans h3, p1, p2, p3, fun _ => p4⟩, Nat.le_refl _, Nat.le_refl _, Nat.le_refl _, show t ≤ t + 200 by omega⟩
theorem act_T {d w x y : Nat} (s : SS T os sc V S N B R A O st C z nv nc nr ne t b) (hx : x < 2147483648) (hy : y < 2147483648) (hn0 : 0 < nv) (hn1 : 0 < nc) (hn2 : 0 < nr) (hw3 : 8 ≤ w) (hw8 : w < 10) : ACTR E d w x y o0 u0 l0 pg ph pc pm T K os sc tc tp tl_ tn trd tv tdg tf tla V S N B R A O st C nv nc nr (t + 200) := by
  obtain ⟨h, wz, q, lx, h3, ⟨a, ha, hos⟩, hsc, hb, hb1⟩ := id s
  have h4 := q.1.n4
  have h2 := q.1.n2
  have hr2 := q.r2
  have h12 := q.e12
  have hcc := q.cc
  have hc0 : C 0 = nI nv := (hcc 0 (by omega)).trans wz.nv.1
  have hc1 : C 1 = nI nc := (hcc 1 (by omega)).trans wz.nc.1
  have hc2 : C 2 = nI nr := (hcc 2 (by omega)).trans wz.nr.1
  have hc5 : C 5 = nI ne := (hcc 5 (by omega)).trans wz.ne.1
  have hv : x / 2 % nv < nv := Nat.mod_lt _ hn0
  have hk : y / 2 % nc < nc := Nat.mod_lt _ hn1
  have he : y / 2 ^ 3 / 2 % nr < nr := Nat.mod_lt _ hn2
  obtain ⟨p, hp', ep⟩ := (wz.vol _ hv).2.2.2.1
  have hpv := q.1.pl _ hv
  rw [ep] at hpv
  by_cases hy1 : V (7 * (x / 2 % nv) + 5) < 0
  · exact act_skip s (s_LactT1 d w x y (TI_RT h wz) hc0 h4 hc1 h2 hc2 hr2 hc5 h12 (q.1.hL wz.lv) hx hy hos ha hsc hb hn0 hn1 hn2 (by omega) rfl rfl rfl hv hk he hw3 hw8 hy1)
  by_cases hy2 : 0 < A (4 * (y / 2 ^ 3 / 2 % nr) + 1)
  · exact act_skip s (s_LactT2 d w x y (TI_RT h wz) hc0 h4 hc1 h2 hc2 hr2 hc5 h12 (q.1.hL wz.lv) hx hy hos ha hsc hb hn0 hn1 hn2 (by omega) rfl rfl rfl hv hk he hw3 hw8 hy1 hy2)
  by_cases hne : ne = 12
  · exact act_skip s (s_LactT3 d w x y (TI_RT h wz) hc0 h4 hc1 h2 hc2 hr2 hc5 h12 (q.1.hL wz.lv) hx hy hos ha hsc hb hn0 hn1 hn2 (by omega) rfl rfl rfl hv hk he hw3 hw8 hy1 hy2 hne)
  have hp0 : 0 < p := by
    rcases Nat.eq_zero_or_pos p with e | e
    · subst e
      rw [hpv, of1_0] at hy1
      exact absurd (show (-1 : Int32) < 0 by decide) hy1
    · exact e
  obtain ⟨c, rfl⟩ : ∃ c, p = c + 1 := ⟨p - 1, by omega⟩
  rw [nI_p1] at hpv
  have hpT : T 0 ((x / 2 % nv) * 7 + 5) = nI c := by rw [h.pl _ hv, ep, nI_p1]
  have hA1 : A (4 * (y / 2 ^ 3 / 2 % nr) + 1) = z (111 + 4 * (y / 2 ^ 3 / 2 % nr) + 1) := q.ca _ 1 (by omega) (by omega)
  have hmn : ¬ F_0mayTakeBack (x / 2 % nv) (y / 2 ^ 3 / 2 % nr) ne T = 0 := by
    obtain ⟨u, hu, eu⟩ := (wz.car (y / 2 ^ 3 / 2 % nr) (by omega)).2
    have hc9 := h.car (y / 2 ^ 3 / 2 % nr) 1 (by omega) (by omega)
    rw [hA1, eu, nI_ps (by omega)] at hy2
    unfold F_0mayTakeBack
    rw [hpT, if_neg (nI_m1 (by have := wz.nc.2; omega)), hc9, eu, show u = 0 by omega, if_pos (show nI 0 = (0 : Int32) from rfl), if_neg (show ¬ 60 ≤ ne by omega)]
    decide
  obtain ⟨m0, m1, m2⟩ := mut_back h wz hv he (c := c) (by omega) (by omega) ep
  have hway := way_q wz q hv (r := y / 2 ^ 3 / 2 % nr) (by omega)
  obtain ⟨n1, n2, n3⟩ := lz_G (P := (-1) + nI 1) (P' := -1) (g := -1) (W := wayZ z (x / 2 % nv) (y / 2 ^ 3 / 2 % nr)) wz q lx hv he (c := c) (by omega) (by omega) (by decide)
  obtain ⟨b', p1, p2, p3, p4⟩ := sv_ok ha hb hos hsc
  rw [← goesB_g] at n1 n2 n3
  have hc := s_LactT4 (E := E) (o0 := o0) (u0 := u0) (l0 := l0) (pg := pg) (ph := ph) (pc := pc) (pm := pm) (tc := tc) (tp := tp) (tl_ := tl_) (tn := tn) (trd := trd) (tv := tv) (tdg := tdg) (tf := tf) (tla := tla) (K := K) (ln := N) (ls := S) (cr := R) (lb := B) (lo := O) d w x y (TI_RT h wz) hc0 h4 hc1 h2 hc2 hr2 hc5 h12 (q.1.hL wz.lv) hx hy hos ha hsc hb hn0 hn1 hn2 (by omega) rfl rfl rfl hv hk he hw3 hw8 hy1 hy2 (by omega) hpv (by omega) (by omega) hmn hpT (m0.trans hway.symm)
  unfold F_LactT4_vo F_LactT4_ca F_LactT4_lo F_LgoesB_vo F_LgoesB_ca F_LgoesB_lo at hc
  rw [hway] at hc
  exact ⟨_, _, _, _, _, _, _, _, _, _, _, _, _, _, _, _, _, _, _, _, _, _, _, _, _, _, _, t, b', hc, ⟨m1, m2, n1, n2, n3.trans h3, p1, p2, p3, fun _ => p4⟩, Nat.le_refl _, Nat.le_refl _, Nat.le_refl _, show t ≤ t + 200 by omega⟩
/-- what minutes leave of a volume's leaves -/
theorem it_fr {s0 s1 s2 g : Int32} {n : Nat} {r : Nat → Int32} {i : Nat} (h4 : 4 ≤ i) (hi : ∀ k, k < n → i ≠ 4 + 3 * k ∧ i ≠ 4 + 3 * k + 1) : ∀ j : Nat, it s0 s1 s2 g n r j i = r i
  | 0 => rfl
  | j + 1 => by
    show one s0 s1 s2 g n (it s0 s1 s2 g n r j) i = r i
    rw [← it_fr h4 hi j (s0 := s0) (s1 := s1) (s2 := s2) (g := g) (r := r)]
    generalize it s0 s1 s2 g n r j = y
    unfold one
    cases hk : nlr y n with
    | none => rfl
    | some k =>
      have hkn : k < n := nlB_lt hk
      have := hi k hkn
      dsimp only
      split
      · rfl
      · split
        · unfold scR
          split
          · rw [upd_ne (by omega), upd_ne (by omega), upd_ne (by omega), upd_ne (by omega), upd_ne (by omega)]
          · rw [upd_ne (by omega), upd_ne (by omega), upd_ne (by omega), upd_ne (by omega), upd_ne (by omega), upd_ne (by omega)]
        · rw [upd_ne (by omega)]
theorem mn_lf (w : WZ z nv nc nr ne) (j : Nat) {v u : Nat} (hv : v < 12) (hu : u < 120) (hi : ∀ k, k < lv z v → u ≠ 3 * k ∧ u ≠ 3 * k + 1) : mnN nv nc nr z j (423 + 120 * v + u) = z (423 + 120 * v + u) := by
  have hM := w.MN j
  have hnr := w.nr.2
  have hnv := w.nv.2
  have hnc := w.nc.2
  by_cases hex : ∃ c, c < nc ∧ vo z (nI c) nv = some v
  · obtain ⟨c, hc, hcv⟩ := hex
    obtain ⟨a, ha, ea⟩ := (w.vol v (vo_lt hcv)).2.2.2.2
    have e := congrFun (hM.1 c v a hc hcv (by omega) ea) (4 + u)
    rw [gZ_leaf _ _ _ _ hu, it_fr (by omega) (fun k hk => by have := hi k hk; omega), gZ_leaf _ _ _ _ hu] at e
    exact e
  · refine hM.2.2.2.2 _ (fun c v' hc hcv => ?_) (fun r hr => by omega) (fun q hq => by omega) (by omega)
    have h' := vo_lt hcv
    have hne : v' ≠ v := fun e => hex ⟨c, hc, by rw [← e]; exact hcv⟩
    unfold AC1
    omega
theorem ca_dec {A : Nat → Int32} (nr : Nat) {r u : Nat} (hu : u < 4) : F_Lminute_ca nr A (4 * r + u) = if u = 1 ∧ r < nr then dec (A (4 * r + 1)) else A (4 * r + u) := by
  unfold F_Lminute_ca
  by_cases e : u = 1 ∧ r < nr
  · rw [if_pos e]
    obtain ⟨rfl, hr⟩ := e
    exact (lm_202 nr).1 r hr
  · rw [if_neg e]
    exact (lm_202 nr).2 _ (fun r' hr' => by omega)
abbrev LPs (nv nc nr : Nat) (V S N R A st C : Nat → Int32) (j : Nat) := L_LactP_542 nv nc nr V S N R A st C j
theorem pass_inv (w : WZ z nv nc nr ne) (q : LZ V S N B R A O st C z nv nc nr ne) : ∀ j : Nat, LC (LPs nv nc nr V S N R A st C j).2.1 (LPs nv nc nr V S N R A st C j).2.2.1 (LPs nv nc nr V S N R A st C j).2.2.2.1 (LPs nv nc nr V S N R A st C j).2.2.2.2.1 st (mnN nv nc nr z j) nv nc ∧ PU (mnN nv nc nr z j) nv ∧ (LPs nv nc nr V S N R A st C j).1 = (L_5pass_50 nv nc nr z j).1 ∧ (∀ r u, r < 2 → u < 4 → (LPs nv nc nr V S N R A st C j).2.2.2.2.2.1 (4 * r + u) = mnN nv nc nr z j (111 + 4 * r + u)) ∧ (∀ k, k < 7 → (LPs nv nc nr V S N R A st C j).2.2.2.2.2.2 k = mnN nv nc nr z j k)
  | 0 => ⟨q.1, w.pu, rfl, q.ca, q.cc⟩
  | j + 1 => by
    obtain ⟨i1, i2, i3, i4, i5⟩ := pass_inv w q j
    have hmn := lm_minute i1 (ZI_mnN w.zi j) i2
    have hnr := w.nr.2
    have hnv := w.nv.2
    have hnc := w.nc.2
    have hM := w.MN (j + 1)
    have hM0 := w.MN j
    refine ⟨hmn.1, hmn.2.1, ?_, fun r u hr hu => ?_, fun k hk => ?_⟩
    · show (LPs nv nc nr V S N R A st C j).1 + F_Lminute nv nc (LPs nv nc nr V S N R A st C j).2.1 (LPs nv nc nr V S N R A st C j).2.2.1 (LPs nv nc nr V S N R A st C j).2.2.2.1 (LPs nv nc nr V S N R A st C j).2.2.2.2.1 st = (L_5pass_50 nv nc nr z j).1 + F_5minute nv nc (L_5pass_50 nv nc nr z j).2
      rw [hmn.2.2, i3, ps_mn]
    · show F_Lminute_ca nr (LPs nv nc nr V S N R A st C j).2.2.2.2.2.1 (4 * r + u) = _
      rw [ca_dec nr hu]
      by_cases e : u = 1 ∧ r < nr
      · rw [if_pos e]
        obtain ⟨rfl, hrn⟩ := e
        obtain ⟨a, ha, ea⟩ := (w.car r (by omega)).2
        rw [i4 r 1 hr (by omega), hM0.2.1 r a hrn (by omega) ea, dec_nI (by omega), hM.2.1 r a hrn (by omega) ea]
        rfl
      · rw [if_neg e, i4 r u hr hu]
        rw [hM.2.2.2.2 _ (fun c v' hc hcv => by have := vo_lt hcv; unfold AC1; omega) (fun r hr => by omega) (fun q hq => by omega) (by omega), hM0.2.2.2.2 _ (fun c v' hc hcv => by have := vo_lt hcv; unfold AC1; omega) (fun r hr => by omega) (fun q hq => by omega) (by omega)]
    · show F_Lminute_cc (LPs nv nc nr V S N R A st C j).2.2.2.2.2.2 k = _
      unfold F_Lminute_cc
      by_cases e : k = 3
      · subst e
        rw [upd_eq, i5 3 (by omega), hM0.2.2.2.1, hM.2.2.2.1, Int32.add_assoc, nI_add]
      · rw [upd_ne e, i5 k hk]
        rw [hM.2.2.2.2 _ (fun c v' hc hcv => by have := vo_lt hcv; unfold AC1; omega) (fun r hr => by omega) (fun q hq => by omega) e, hM0.2.2.2.2 _ (fun c v' hc hcv => by have := vo_lt hcv; unfold AC1; omega) (fun r hr => by omega) (fun q hq => by omega) e]
theorem pass_lz (w : WZ z nv nc nr ne) (q : LZ V S N B R A O st C z nv nc nr ne) (lx : LX z nv) (m : Nat) : LZ (LPs nv nc nr V S N R A st C m).2.1 (LPs nv nc nr V S N R A st C m).2.2.1 (LPs nv nc nr V S N R A st C m).2.2.2.1 B (LPs nv nc nr V S N R A st C m).2.2.2.2.1 (LPs nv nc nr V S N R A st C m).2.2.2.2.2.1 O st (LPs nv nc nr V S N R A st C m).2.2.2.2.2.2 (mnN nv nc nr z m) nv nc nr ne ∧ LX (mnN nv nc nr z m) nv := by
  obtain ⟨i1, i2, i3, i4, i5⟩ := pass_inv w q m
  have h4 := q.1.n4
  have hnr := w.nr.2
  have hnv := w.nv.2
  have hnc := w.nc.2
  have hM := w.MN m
  have el : ∀ v, v < nv → lv (mnN nv nc nr z m) v = lv z v := fun v hv => lv_of (hM.2.2.2.2 _ (fun c v' hc hcv => by have := vo_lt hcv; unfold AC1; omega) (fun r hr => by omega) (fun q hq => by omega) (by omega))
  refine ⟨⟨i1, i5, fun v k hv hk => ?_, i4, fun e u he hu => ?_, q.r2, q.e12, fun v hv => ?_⟩, fun v k hv hk hk2 => ?_, fun v k hv hk => ?_⟩
  · rw [q.lb v k hv hk, show 423 + 3 * (40 * v + k) + 2 = 423 + 120 * v + (3 * k + 2) by omega, mn_lf w m (by omega) (by omega) (fun k' _ => by omega)]
  · rw [q.lo e u he hu, hM.2.2.2.2 _ (fun c v' hc hcv => by have := vo_lt hcv; unfold AC1; omega) (fun r hr => by omega) (fun q hq => by omega) (by omega)]
  · rw [el v hv]; exact q.l1 v hv
  · rw [el v hv] at hk
    have e := lx.1 v k hv hk hk2
    rw [show 423 + 3 * (40 * v + k) + 0 = 423 + 120 * v + 3 * k by omega] at e ⊢
    rw [mn_lf w m (by omega) (by omega) (fun k' _ => by omega)]
    exact e
  · have e := lx.2 v k hv hk
    rw [show 423 + 3 * (40 * v + k) + 2 = 423 + 120 * v + (3 * k + 2) by omega] at e ⊢
    rw [mn_lf w m (by omega) (by omega) (fun k' _ => by omega)]
    exact e
theorem act_P {d w x y : Nat} (s : SS T os sc V S N B R A O st C z nv nc nr ne t b) (hx : x < 2147483648) (hy : y < 2147483648) (hn0 : 0 < nv) (hn1 : 0 < nc) (hn2 : 0 < nr) (hw3 : 10 ≤ w) (hw8 : w < 15) (ht : t ≤ 8000) : ACTR E d w x y o0 u0 l0 pg ph pc pm T K os sc tc tp tl_ tn trd tv tdg tf tla V S N B R A O st C nv nc nr (t + 200) := by
  obtain ⟨h, wz, q, lx, h3, ⟨a, ha, hos⟩, hsc, hb, hb1⟩ := id s
  have h4 := q.1.n4
  have h2 := q.1.n2
  have hr2 := q.r2
  have h12 := q.e12
  have hcc := q.cc
  have hc0 : C 0 = nI nv := (hcc 0 (by omega)).trans wz.nv.1
  have hc1 : C 1 = nI nc := (hcc 1 (by omega)).trans wz.nc.1
  have hc2 : C 2 = nI nr := (hcc 2 (by omega)).trans wz.nr.1
  have hc5 : C 5 = nI ne := (hcc 5 (by omega)).trans wz.ne.1
  have hv : x / 2 % nv < nv := Nat.mod_lt _ hn0
  have hk : y / 2 % nc < nc := Nat.mod_lt _ hn1
  have he : y / 2 ^ 3 / 2 % nr < nr := Nat.mod_lt _ hn2
  have key : ∀ m : Nat, 0 < m → m ≤ 200 → (T 5 3 + nI m ≤ nI 20000) ∧ F_4pass (nI m) nc T = (L_LactP_542 nv nc nr V S N R A st C m).1 ∧ ∃ b', SS (F_LactP_T nv nc nr m T) (F_LactP_os a b os) (F_LactP_sc b sc) (LPs nv nc nr V S N R A st C m).2.1 (LPs nv nc nr V S N R A st C m).2.2.1 (LPs nv nc nr V S N R A st C m).2.2.2.1 B (LPs nv nc nr V S N R A st C m).2.2.2.2.1 (LPs nv nc nr V S N R A st C m).2.2.2.2.2.1 O st (LPs nv nc nr V S N R A st C m).2.2.2.2.2.2 (mnN nv nc nr z m) nv nc nr ne (t + m) b' := fun m hm0 hm2 => by
    obtain ⟨m1, m2⟩ := RT_pass h wz (m := m) (by omega)
    obtain ⟨n1, n2⟩ := pass_lz wz q lx m
    obtain ⟨b', p1, p2, p3, p4⟩ := sv_ok ha hb hos hsc
    refine ⟨?_, ?_, b', m1, WZ_mnN wz m, n1, n2, ?_, p1, p2, p3, fun _ => p4⟩
    · rw [h.num 3 (by omega), h3, nI_add]
      exact nI_le (by omega) (by omega)
    · rw [(pass_inv wz q m).2.2.1, pass50 wz m]
      exact m2
    · rw [(wz.MN m).2.2.2.1, h3, nI_add]
  by_cases hwa : w = 10
  · obtain ⟨k1, k2, b', k3⟩ := key (1 + y / 2 ^ 5 / 2 % 200) (by omega) (by omega)
    exact ⟨_, _, _, _, _, _, _, _, _, _, _, _, _, _, _, _, _, _, _, _, _, _, _, _, _, _, _, _, _, s_LactP d w x y (TI_RT h wz) hc0 h4 hc1 h2 hc2 hr2 hc5 h12 (q.1.hL wz.lv) hx hy hos ha hsc hb hn0 hn1 hn2 (by omega) rfl rfl rfl hv hk he hw3 hw8 (by omega) (by omega) k1 k2 hwa rfl, k3, Nat.le_refl _, Nat.le_refl _, Nat.le_refl _, by omega⟩
  · obtain ⟨k1, k2, b', k3⟩ := key (1 + y / 2 ^ 5 / 2 % 12) (by omega) (by omega)
    exact ⟨_, _, _, _, _, _, _, _, _, _, _, _, _, _, _, _, _, _, _, _, _, _, _, _, _, _, _, _, _, s_LactP2 d w x y (TI_RT h wz) hc0 h4 hc1 h2 hc2 hr2 hc5 h12 (q.1.hL wz.lv) hx hy hos ha hsc hb hn0 hn1 hn2 (by omega) rfl rfl rfl hv hk he hw3 hw8 (by omega) (by omega) k1 k2 hwa rfl, k3, Nat.le_refl _, Nat.le_refl _, Nat.le_refl _, by omega⟩
end ACTS2
