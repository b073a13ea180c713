section PO2
variable {E : AE} {T K : Nat → Nat → Int32} {os sc : Int32} {tc tp : Nat → Int32} {tl_ tn trd tv tdg tf tla : Int32} {pg ph pc : Nat → Int32} {pm : Int32} {z sa ro te fr to un ga pi be : Nat → Int32} {bm en sta sv ln th : Int32} {hh : Int64} {ov : Nat → Int64} {nv nc nr ne a b q : Nat} {ol : List AC}
theorem npos {a : Nat} (ha : a < 2147483648) (h : ¬ (0 : Int32) < nI a) : a = 0 := by
  have h2 : ¬ nI 0 < nI a := h
  rw [nI_ltI (by omega) ha] at h2
  omega
theorem rsZ_0 {z : Nat → Int32} {nv ne v c r : Nat} (h : rsZ z nv ne v c r = 0) : ¬ 0 < z (11 + 7 * v + 5) ∧ vo z (nI c) nv = none := by
  unfold rsZ at h
  by_cases q1 : 0 < z (11 + 7 * v + 5)
  · rw [if_pos q1] at h
    exact absurd h (by decide)
  rw [if_neg q1] at h
  by_cases q2 : 0 < z (11 + 7 * v + 6)
  · rw [if_pos q2] at h
    exact absurd h (by decide)
  rw [if_neg q2] at h
  by_cases q3 : vo z (nI c) nv = none
  · exact ⟨q1, q3⟩
  · rw [if_pos q3] at h
    exact absurd h (by decide)
theorem hcd_N {q : Nat} {tc te : Nat → Int32} (hcd : ∀ k, k < q → tc k = te k ∧ ∃ c : Nat, c < 127 ∧ te k = nI c) : ∀ k, k < q → isN (tc k) ∧ (tc k).toNatClampNeg < 127 := by
  intro k hk
  obtain ⟨h1, c, hc, h2⟩ := hcd k hk
  rw [h1, h2]
  have e : (nI c).toNatClampNeg = c := nI_clamp (by omega)
  exact ⟨by unfold isN; rw [e], by rw [e]; exact hc⟩
theorem wi_bad4 {x : Int32} {n : Nat} (hn : n < 2147483647) (h : ¬ ∃ q9 : Nat, q9 < n + 1 ∧ x = nI q9) : wi x (nI 0) (nI n) = nI 0 := by
  by_cases e : wi x (nI 0) (nI n) = 0
  · exact e
  · obtain ⟨k, -, h2, h3⟩ := wi_num (by omega) (by omega) e
    exact absurd ⟨k, by omega, h3⟩ h
theorem IV.q0 (hI : IV T K os sc tc tl_ ph pc z ro te be sv ln nv nc nr ne a b q) : IV T K os sc tc (nI 0) ph pc z ro te be sv (nI 0) nv nc nr ne a b 0 := by
  obtain ⟨h, w, hS, hos, ha, hsc, hb, hsv, htl, hln, hq, hcd, h4, hbe⟩ := hI
  exact ⟨h, w, hS, hos, ha, hsc, hb, hsv, rfl, rfl, by omega, fun k hk => absurd hk (by omega), h4, hbe⟩
set_option maxRecDepth 10000 in
theorem p_bring (hex : E.ex = false) (hI : IV T K os sc tc tl_ ph pc z ro te be sv ln nv nc nr ne a b q) (x y t : Int32) : PO E M_L_bring M_X5_bring [.ref 4096, .int x, .int y, .int t, .ref 20480] [.ref 16384, .int x, .int y, .int t] ol (ar T K os sc) (te_ tc tp tl_ tn trd tv tdg tf tla) (pl pg ph pc pm) (mo z sa ro te fr to un ga pi be bm en sta sv ln th hh) ov := by
  obtain ⟨h, w, hS, hos, ha, hsc, hb, hsv, htl, hln, hq, hcd, h4, hbe⟩ := id hI
  have hT := TI_RT h w
  have hZ := w.zi
  by_cases hx1 : ∃ q9 : Nat, q9 < nv ∧ x = nI q9
  rotate_left
  · have h5 := fun (a1 t1 p1 u1 : List AC) => s_5bringA (E := E) (o0 := ol) (a0 := a1) (t0 := t1) (p0 := p1) (u0 := u1) (l0 := []) (z := z) (sa := sa) (ro := ro) (te := te) (fr := fr) (to := to) (un := un) (ga := ga) (pi := pi) (be := be) (bm := bm) (en := en) (sta := sta) (sv := sv) (ln := ln) (th := th) (hh := hh) 9 x y t hZ hx1
    exact po_thr (k := nI 1) (by decide) (w_bring_X (s_4bringA 6 x y t hT hx1 hex)) (h5 _ _ _ _) (inv_mk hI)
  obtain ⟨v, hv, rfl⟩ := hx1
  by_cases hx2 : ∃ q9 : Nat, q9 < nc ∧ y = nI q9
  rotate_left
  · have h5 := fun (a1 t1 p1 u1 : List AC) => s_5bringB (E := E) (o0 := ol) (a0 := a1) (t0 := t1) (p0 := p1) (u0 := u1) (l0 := []) (z := z) (sa := sa) (ro := ro) (te := te) (fr := fr) (to := to) (un := un) (ga := ga) (pi := pi) (be := be) (bm := bm) (en := en) (sta := sta) (sv := sv) (ln := ln) (th := th) (hh := hh) 9 v y t hZ hv hx2
    exact po_thr (k := nI 1) (by decide) (w_bring_X (s_4bringB 6 v y t hT hv hx2 hex)) (h5 _ _ _ _) (inv_mk hI)
  obtain ⟨c, hc, rfl⟩ := hx2
  by_cases hx3 : ∃ q9 : Nat, q9 < nr ∧ t = nI q9
  rotate_left
  · have h5 := fun (a1 t1 p1 u1 : List AC) => s_5bringC (E := E) (o0 := ol) (a0 := a1) (t0 := t1) (p0 := p1) (u0 := u1) (l0 := []) (z := z) (sa := sa) (ro := ro) (te := te) (fr := fr) (to := to) (un := un) (ga := ga) (pi := pi) (be := be) (bm := bm) (en := en) (sta := sta) (sv := sv) (ln := ln) (th := th) (hh := hh) 9 v c t hZ hv hc hx3
    exact po_thr (k := nI 1) (by decide) (w_bring_X (s_4bringC 6 v c t hT hv hc hx3 hex)) (h5 _ _ _ _) (inv_mk hI)
  obtain ⟨r, hr, rfl⟩ := hx3
  have h5 := fun (a1 t1 p1 u1 : List AC) => s_5bring (E := E) (o0 := ol) (a0 := a1) (t0 := t1) (p0 := p1) (u0 := u1) (l0 := []) (z := z) (sa := sa) (ro := ro) (te := te) (fr := fr) (to := to) (un := un) (ga := ga) (pi := pi) (be := be) (bm := bm) (en := en) (sta := sta) (sv := sv) (ln := ln) (th := th) (hh := hh) 9 v c r hZ hsv hb hv hc hr
  unfold F_5bring F_5bring_z F_5bring_ro F_5bring_sv F_5bring_th at h5
  have er := e_reason h w hv hc hr
  by_cases c4 : rsZ z nv ne v c r = 0
  rotate_left
  · simp only [if_neg c4] at h5
    exact po_thr (k := nI 2) (by decide) (w_bring_S (s_4bringE 6 v c r hT hv hc hr (by rw [er]; exact c4) hex)) (h5 _ _ _ _) (inv_mk hI)
  simp only [if_pos c4] at h5
  obtain ⟨c5, c6⟩ := rsZ_0 c4
  have c7 := rsZ_ne c4
  have hne := w.ne.2
  have hpl : z (11 + 7 * v + 5) = nI 0 := by
    obtain ⟨g, hg, eg⟩ := (w.vol v hv).2.2.2.1
    have := w.nc.2
    rw [eg] at c5
    rw [eg, npos (by omega) c5]
  obtain ⟨g0, g1, g2⟩ := mut_bring h w hv hr hc (by omega) hpl c6
  exact po_ok (w_bring_O (s_4bring 6 v c r hT hos ha hsc hb hv hc hr (by rw [er]; exact c4))) (h5 _ _ _ _) (inv_mk (hI.save g1 g2)) g0
set_option maxRecDepth 10000 in
theorem p_takeBack (hex : E.ex = false) (hI : IV T K os sc tc tl_ ph pc z ro te be sv ln nv nc nr ne a b q) (x t : Int32) : PO E M_L_takeBack M_X5_takeBack [.ref 4096, .int x, .int t, .ref 20480] [.ref 16384, .int x, .int t] ol (ar T K os sc) (te_ tc tp tl_ tn trd tv tdg tf tla) (pl pg ph pc pm) (mo z sa ro te fr to un ga pi be bm en sta sv ln th hh) ov := by
  obtain ⟨h, w, hS, hos, ha, hsc, hb, hsv, htl, hln, hq, hcd, h4, hbe⟩ := id hI
  have hT := TI_RT h w
  have hZ := w.zi
  by_cases hx1 : ∃ q9 : Nat, q9 < nv ∧ x = nI q9
  rotate_left
  · have h5 := fun (a1 t1 p1 u1 : List AC) => s_5takeBackA (E := E) (o0 := ol) (a0 := a1) (t0 := t1) (p0 := p1) (u0 := u1) (l0 := []) (z := z) (sa := sa) (ro := ro) (te := te) (fr := fr) (to := to) (un := un) (ga := ga) (pi := pi) (be := be) (bm := bm) (en := en) (sta := sta) (sv := sv) (ln := ln) (th := th) (hh := hh) 9 x t hZ hx1
    exact po_thr (k := nI 1) (by decide) (w_takeBack_X (s_4takeBackA 6 x t hT hx1 hex)) (h5 _ _ _ _) (inv_mk hI)
  obtain ⟨v, hv, rfl⟩ := hx1
  by_cases hx3 : ∃ q9 : Nat, q9 < nr ∧ t = nI q9
  rotate_left
  · have h5 := fun (a1 t1 p1 u1 : List AC) => s_5takeBackB (E := E) (o0 := ol) (a0 := a1) (t0 := t1) (p0 := p1) (u0 := u1) (l0 := []) (z := z) (sa := sa) (ro := ro) (te := te) (fr := fr) (to := to) (un := un) (ga := ga) (pi := pi) (be := be) (bm := bm) (en := en) (sta := sta) (sv := sv) (ln := ln) (th := th) (hh := hh) 9 v t hZ hv hx3
    exact po_thr (k := nI 1) (by decide) (w_takeBack_X (s_4takeBackB 6 v t hT hv hx3 hex)) (h5 _ _ _ _) (inv_mk hI)
  obtain ⟨r, hr, rfl⟩ := hx3
  have h3 := w.nr.2
  have h12 := w.nv.2
  have hne := w.ne.2
  have h4c := w.nc.2
  have e5 := h.pl v hv
  have e3 := h.car r 1 (by omega) (by omega)
  obtain ⟨g, hg, eg⟩ := (w.vol v hv).2.2.2.1
  obtain ⟨u, hu, eu⟩ := (w.car r (by omega)).2
  cases g with
  | zero =>
    have h5 := fun (a1 t1 p1 u1 : List AC) => s_5takeBackC (E := E) (o0 := ol) (a0 := a1) (t0 := t1) (p0 := p1) (u0 := u1) (l0 := []) (z := z) (sa := sa) (ro := ro) (te := te) (fr := fr) (to := to) (un := un) (ga := ga) (pi := pi) (be := be) (bm := bm) (en := en) (sta := sta) (sv := sv) (ln := ln) (th := th) (hh := hh) 9 v r hZ hv hr eg
    have hm : F_0mayTakeBack v r ne T = 0 := by
      unfold F_0mayTakeBack
      rw [if_pos (by rw [e5, eg]; rfl)]
      rfl
    exact po_thr (k := nI 2) (by decide) (w_takeBack_S (s_4takeBackE 6 v r hT hv hr hm hex)) (h5 _ _ _ _) (inv_mk hI)
  | succ c =>
    have e6 : T 0 (v * 7 + 5) = nI c := by rw [e5, eg, nI_p1]
    have n1 : ¬ T 0 (v * 7 + 5) = -1 := by rw [e6]; exact nI_m1 (by omega)
    have h5 := fun (a1 t1 p1 u1 : List AC) => s_5takeBack (E := E) (o0 := ol) (a0 := a1) (t0 := t1) (p0 := p1) (u0 := u1) (l0 := []) (z := z) (sa := sa) (ro := ro) (te := te) (fr := fr) (to := to) (un := un) (ga := ga) (pi := pi) (be := be) (bm := bm) (en := en) (sta := sta) (sv := sv) (ln := ln) (th := th) (hh := hh) 9 v r hZ hsv hb hv hr eg (by omega)
    unfold F_5takeBack F_5takeBack_z F_5takeBack_ro F_5takeBack_sv F_5takeBack_th at h5
    by_cases c4 : 0 < z (111 + 4 * r + 1)
    · simp only [if_pos c4] at h5
      have hm : F_0mayTakeBack v r ne T = 0 := by
        unfold F_0mayTakeBack
        rw [if_neg n1, if_neg (by
          rw [e3]
          intro x
          rw [x] at c4
          exact absurd c4 (by decide))]
        rfl
      exact po_thr (k := nI 2) (by decide) (w_takeBack_S (s_4takeBackE 6 v r hT hv hr hm hex)) (h5 _ _ _ _) (inv_mk hI)
    simp only [if_neg c4] at h5
    have c8 : T 3 (r * 4 + 1) = 0 := by
      rw [eu] at c4
      rw [e3, eu, npos (by omega) c4]
      rfl
    by_cases c9 : ne = 60
    · have b1 : ¬ bi (ne = 60) = 0 := by
        unfold bi
        rw [if_pos c9]
        decide
      simp only [if_neg b1] at h5
      have hm : F_0mayTakeBack v r ne T = 0 := by
        unfold F_0mayTakeBack
        rw [if_neg n1, if_pos c8, if_pos (by omega)]
        rfl
      exact po_thr (k := nI 2) (by decide) (w_takeBack_S (s_4takeBackE 6 v r hT hv hr hm hex)) (h5 _ _ _ _) (inv_mk hI)
    have b1 : bi (ne = 60) = 0 := by
      unfold bi
      rw [if_neg c9]
    simp only [if_pos b1] at h5
    have hm : ¬ F_0mayTakeBack v r ne T = 0 := by
      unfold F_0mayTakeBack
      rw [if_neg n1, if_pos c8, if_neg (by omega)]
      decide
    obtain ⟨g0, g1, g2⟩ := mut_back h w hv hr (by omega) (by omega) eg
    exact po_ok (w_takeBack_O (s_4takeBack 6 v r hT hos ha hsc hb hv hr hm e6 (by omega))) (h5 _ _ _ _) (inv_mk (hI.save g1 g2)) g0
set_option maxRecDepth 10000 in
theorem p_pass (hex : E.ex = false) (hI : IV T K os sc tc tl_ ph pc z ro te be sv ln nv nc nr ne a b q) (x : Int32) : PO E M_L_pass M_X5_pass [.ref 4096, .int x, .ref 20480] [.ref 16384, .int x] ol (ar T K os sc) (te_ tc tp tl_ tn trd tv tdg tf tla) (pl pg ph pc pm) (mo z sa ro te fr to un ga pi be bm en sta sv ln th hh) ov := by
  obtain ⟨h, w, hS, hos, ha, hsc, hb, hsv, htl, hln, hq, hcd, h4, hbe⟩ := id hI
  have hT := TI_RT h w
  have hZ := w.zi
  by_cases c0 : wi x (nI 1) (nI 500) = 0
  · have h5 := fun (a1 t1 p1 u1 : List AC) => s_5passA (E := E) (o0 := ol) (a0 := a1) (t0 := t1) (p0 := p1) (u0 := u1) (l0 := []) (z := z) (sa := sa) (ro := ro) (te := te) (fr := fr) (to := to) (un := un) (ga := ga) (pi := pi) (be := be) (bm := bm) (en := en) (sta := sta) (sv := sv) (ln := ln) (th := th) (hh := hh) 8 x c0
    exact po_thr (k := nI 1) (by decide) (w_pass_A (s_4passA 7 x hT c0 hex)) (h5 _ _ _ _) (inv_mk hI)
  obtain ⟨n, l1, l2, rfl⟩ := wi_num (by omega) (by omega) c0
  have h5 := fun (a1 t1 p1 u1 : List AC) => s_5pass (E := E) (o0 := ol) (a0 := a1) (t0 := t1) (p0 := p1) (u0 := u1) (l0 := []) (z := z) (sa := sa) (ro := ro) (te := te) (fr := fr) (to := to) (un := un) (ga := ga) (pi := pi) (be := be) (bm := bm) (en := en) (sta := sta) (sv := sv) (ln := ln) (th := th) (hh := hh) 8 n hZ hsv hb l1 l2
  unfold F_5pass F_5pass_z F_5pass_ro F_5pass_sv F_5pass_th at h5
  have e3 := h.num 3 (by omega)
  by_cases c1 : z 3 + nI n ≤ nI 20000
  rotate_left
  · simp only [if_neg c1] at h5
    exact po_thr (k := nI 2) (by decide) (w_pass_S (s_4passE 7 (nI n) hT c0 (by rw [e3]; exact c1) hex)) (h5 _ _ _ _) (inv_mk hI)
  simp only [if_pos c1, pass50 w n] at h5
  obtain ⟨g1, g0⟩ := RT_pass h w (show n < 10000 by omega)
  exact po_ok (w_pass_O (s_4pass 7 (nI n) hT hos ha hsc hb c0 (by rw [e3]; exact c1))) (h5 _ _ _ _) (inv_mk (hI.save g1 (WZ_mnN w n))) g0
set_option maxRecDepth 10000 in
theorem p_reject (hex : E.ex = false) (hI : IV T K os sc tc tl_ ph pc z ro te be sv ln nv nc nr ne a b q) (x y : Int32) : PO E M_L_reject M_X5_reject [.ref 4096, .int x, .int y, .ref 20480] [.ref 16384, .int x, .int y] ol (ar T K os sc) (te_ tc tp tl_ tn trd tv tdg tf tla) (pl pg ph pc pm) (mo z sa ro te fr to un ga pi be bm en sta sv ln th hh) ov := by
  obtain ⟨h, w, hS, hos, ha, hsc, hb, hsv, htl, hln, hq, hcd, h4, hbe⟩ := id hI
  have hT := TI_RT h w
  have hZ := w.zi
  by_cases hx1 : ∃ q9 : Nat, q9 < nv ∧ x = nI q9
  rotate_left
  · have h5 := fun (a1 t1 p1 u1 : List AC) => s_5rejectA (E := E) (o0 := ol) (a0 := a1) (t0 := t1) (p0 := p1) (u0 := u1) (l0 := []) (z := z) (sa := sa) (ro := ro) (te := te) (fr := fr) (to := to) (un := un) (ga := ga) (pi := pi) (be := be) (bm := bm) (en := en) (sta := sta) (sv := sv) (ln := ln) (th := th) (hh := hh) 9 x y hZ hx1
    exact po_thr (k := nI 1) (by decide) (w_reject_X (s_4rejectA 7 x y hT hx1 hex)) (h5 _ _ _ _) (inv_mk hI)
  obtain ⟨v, hv, rfl⟩ := hx1
  have h12 := w.nv.2
  have elt := lt_eq h (show v < 12 by omega)
  have h40 := (w.lv v hv).2
  by_cases hx2 : ∃ q9 : Nat, q9 < lv z v ∧ y = nI q9
  rotate_left
  · have h5 := fun (a1 t1 p1 u1 : List AC) => s_5rejectB (E := E) (o0 := ol) (a0 := a1) (t0 := t1) (p0 := p1) (u0 := u1) (l0 := []) (z := z) (sa := sa) (ro := ro) (te := te) (fr := fr) (to := to) (un := un) (ga := ga) (pi := pi) (be := be) (bm := bm) (en := en) (sta := sta) (sv := sv) (ln := ln) (th := th) (hh := hh) 9 v y hZ hv hx2
    exact po_thr (k := nI 1) (by decide) (w_reject_X (s_4rejectB 7 v y hT hv (by rw [elt]; exact hx2) hex)) (h5 _ _ _ _) (inv_mk hI)
  obtain ⟨k, hk, rfl⟩ := hx2
  have h5 := fun (a1 t1 p1 u1 : List AC) => s_5reject (E := E) (o0 := ol) (a0 := a1) (t0 := t1) (p0 := p1) (u0 := u1) (l0 := []) (z := z) (sa := sa) (ro := ro) (te := te) (fr := fr) (to := to) (un := un) (ga := ga) (pi := pi) (be := be) (bm := bm) (en := en) (sta := sta) (sv := sv) (ln := ln) (th := th) (hh := hh) 9 v k hZ hsv hb hv hk
  unfold F_5reject F_5reject_z F_5reject_ro F_5reject_sv F_5reject_th at h5
  have ef : F_0leafFact v k 0 T = z (423 + 3 * (40 * v + k) + 0) := h.leaf v k 0 (by omega) (by omega) (by omega)
  by_cases c1 : z (423 + 3 * (40 * v + k) + 0) = nI 1
  rotate_left
  · simp only [if_neg c1] at h5
    exact po_thr (k := nI 2) (by decide) (w_reject_S (s_4rejectE 7 v k hT hv (by rw [elt]; exact hk) (by rw [ef]; exact c1) hex)) (h5 _ _ _ _) (inv_mk hI)
  simp only [if_pos c1] at h5
  obtain ⟨g1, g2⟩ := mut_reject h w hv (show k < 40 by omega)
  refine po_ok (w_reject_O (s_4reject 7 v k hT hos ha hsc hb hv (by rw [elt]; exact hk) (by rw [ef]; exact c1))) (h5 _ _ _ _) (inv_mk (hI.save g1 g2)) ?_
  have e1 := lt_eq g1 (show v < 12 by omega)
  have e2 := e_with g1 (show v < 12 by omega) (nI 2) (lv (zR v k z) v) (g2.lv v hv).2
  show L_0leavesInCondition_5 v (nI 2) (F_0findFaulty_T v k T) (lt (F_0findFaulty_T v k T) v) = L_5leavesWith_5 v (nI 2) (zR v k z) (lv (zR v k z) v)
  rw [e1, e2]
set_option maxRecDepth 10000 in
theorem p_append (hex : E.ex = false) (hI : IV T K os sc tc tl_ ph pc z ro te be sv ln nv nc nr ne a b q) (x : Int32) : PO E M_L_append M_X5_append [.ref 4096, .int x, .ref 20480] [.ref 16384, .int x] ol (ar T K os sc) (te_ tc tp tl_ tn trd tv tdg tf tla) (pl pg ph pc pm) (mo z sa ro te fr to un ga pi be bm en sta sv ln th hh) ov := by
  obtain ⟨h, w, hS, hos, ha, hsc, hb, hsv, htl, hln, hq, hcd, h4, hbe⟩ := id hI
  have hT := TI_RT h w
  have hZ := w.zi
  have h5 := fun (a1 t1 p1 u1 : List AC) => s_5append (E := E) (o0 := ol) (a0 := a1) (t0 := t1) (p0 := p1) (u0 := u1) (l0 := []) (z := z) (sa := sa) (ro := ro) (te := te) (fr := fr) (to := to) (un := un) (ga := ga) (pi := pi) (be := be) (bm := bm) (en := en) (sta := sta) (sv := sv) (ln := ln) (th := th) (hh := hh) 11 x hln hq
  unfold F_5append F_5append_te F_5append_ln F_5append_th at h5
  by_cases c0 : wi x (nI 33) (nI 126) = 0
  · simp only [if_pos c0] at h5
    exact po_thr (k := nI 1) (by decide) (w_append_A (s_4appendA 10 x c0 hex)) (h5 _ _ _ _) (inv_mk hI)
  simp only [if_neg c0] at h5
  by_cases c1 : q = 60
  · simp only [if_pos c1] at h5
    exact po_thr (k := nI 2) (by decide) (w_append_S (s_4appendE 10 x c0 htl c1 hex)) (h5 _ _ _ _) (inv_mk hI)
  simp only [if_neg c1] at h5
  have q6 : ¬ 60 ≤ q := by omega
  have et : F_4append_tc x q tc = upd tc q x := by
    unfold F_4append_tc F_1add_tc
    rw [if_neg q6]
  have el : F_4append_tl_ q tl_ = nI q + nI 1 := by
    unfold F_4append_tl_ F_1add_tl_
    rw [if_neg q6]
  obtain ⟨n, l1, l2, ex⟩ := wi_num (by omega) (by omega) c0
  have s4 := s_4append (E := E) (o0 := ol) (m0 := (mo z sa ro te fr to un ga pi be bm en sta sv ln th hh)) (u0 := ou ov) (l0 := []) (T := T) (K := K) (os := os) (sc := sc) (tc := tc) (tp := tp) (tn := tn) (trd := trd) (tv := tv) (tdg := tdg) (tf := tf) (tla := tla) (pg := pg) (ph := ph) (pc := pc) (pm := pm) 10 x c0 htl (show q < 60 by omega)
  rw [et, el] at s4
  have hIV : IV T K os sc (upd tc q x) (nI q + nI 1) ph pc z ro (upd te q x) be sv (nI q + nI 1) nv nc nr ne a b (q + 1) := by
    refine ⟨h, w, hS, hos, ha, hsc, hb, hsv, nI_add q 1, nI_add q 1, by omega, fun k hk => ?_, h4, hbe⟩
    by_cases qk : k = q
    · rw [qk, upd_eq, upd_eq]
      exact ⟨rfl, n, by omega, ex⟩
    · rw [upd_ne qk, upd_ne qk]
      exact hcd k (by omega)
  refine po_ok (w_append_O s4) (h5 _ _ _ _) (inv_mk hIV) ?_
  unfold F_4append F_1add
  rw [if_neg q6]
set_option maxRecDepth 10000 in
theorem p_undo (hex : E.ex = false) (hI : IV T K os sc tc tl_ ph pc z ro te be sv ln nv nc nr ne a b q) : PO E M_L_undo M_X5_undo [.ref 4096, .ref 20480] [.ref 16384] ol (ar T K os sc) (te_ tc tp tl_ tn trd tv tdg tf tla) (pl pg ph pc pm) (mo z sa ro te fr to un ga pi be bm en sta sv ln th hh) ov := by
  obtain ⟨h, w, hS, hos, ha, hsc, hb, hsv, htl, hln, hq, hcd, h4, hbe⟩ := id hI
  have hT := TI_RT h w
  have hZ := w.zi
  have h5 := fun (a1 t1 p1 u1 : List AC) => s_5undo (E := E) (o0 := ol) (a0 := a1) (t0 := t1) (p0 := p1) (u0 := u1) (l0 := []) (z := z) (sa := sa) (ro := ro) (te := te) (fr := fr) (to := to) (un := un) (ga := ga) (pi := pi) (be := be) (bm := bm) (en := en) (sta := sta) (sv := sv) (ln := ln) (th := th) (hh := hh) 11 hsv hb
  unfold F_5undo F_5undo_z F_5undo_sv F_5undo_th at h5
  by_cases c0 : b = 0
  · simp only [if_pos c0] at h5
    exact po_thr (k := nI 1) (by decide) (w_undo_S (s_4undoE 8 hos ha hsc hb c0 hex)) (h5 _ _ _ _) (inv_mk hI)
  simp only [if_neg c0] at h5
  obtain ⟨⟨nv', nc', nr', ne', g1, g2⟩, g3⟩ := SR_undo (T := T) (z := z) hS (show 0 < b by omega)
  have hIV : IV (F_0restore_T a b T K) K os (nI (b - 1)) tc tl_ ph pc (L_5undo_30 b z ro 1863) ro te be (nI (b - 1)) ln nv' nc' nr' ne' a (b - 1) q := ⟨g1, g2, g3, hos, ha, rfl, by omega, rfl, htl, hln, hq, hcd, h4, hbe⟩
  exact po_ok (w_undo_O (s_4undo 8 hos ha hsc hb (by omega))) (h5 _ _ _ _) (inv_mk hIV) rfl
set_option maxRecDepth 10000 in
theorem p_set {sx : Nat → Int32} {sl : Nat} (hex : E.ex = false) (hI : IV T K os sc tc tl_ ph pc z ro te be sv ln nv nc nr ne a b q) (x t : Int32) : PO E M_L_set M_X5_set [.ref 4096, .int x, .int t, .ref 20480] [.ref 16384, .int x, .int t] (ol_ sx sl lsS gsS) (ar T K os sc) (te_ tc tp tl_ tn trd tv tdg tf tla) (pl pg ph pc pm) (mo z sa ro te fr to un ga pi be bm en sta sv ln th hh) ov := by
  obtain ⟨h, w, hS, hos, ha, hsc, hb, hsv, htl, hln, hq, hcd, h4, hbe⟩ := id hI
  have hT := TI_RT h w
  have hZ := w.zi
  by_cases hx1 : ∃ q9 : Nat, q9 < 4 ∧ x = nI q9
  rotate_left
  · have h5 := fun (a1 t1 p1 u1 : List AC) => s_5setA (E := E) (o0 := (ol_ sx sl lsS gsS)) (a0 := a1) (t0 := t1) (p0 := p1) (u0 := u1) (l0 := []) (z := z) (sa := sa) (ro := ro) (te := te) (fr := fr) (to := to) (un := un) (ga := ga) (pi := pi) (be := be) (bm := bm) (en := en) (sta := sta) (sv := sv) (ln := ln) (th := th) (hh := hh) 11 x t (wi_bad4 (by omega) hx1)
    exact po_thr (k := nI 1) (by decide) (w_set_X (s_4setA 8 x t hT hx1 hex)) (h5 _ _ _ _) (inv_mk hI)
  obtain ⟨k, hk, rfl⟩ := hx1
  have h5 := fun (a1 t1 p1 u1 : List AC) => s_5set (E := E) (o0 := (ol_ sx sl lsS gsS)) (a0 := a1) (t0 := t1) (p0 := p1) (u0 := u1) (l0 := []) (z := z) (sa := sa) (ro := ro) (te := te) (fr := fr) (to := to) (un := un) (ga := ga) (pi := pi) (be := be) (bm := bm) (en := en) (sta := sta) (sv := sv) (ln := ln) (th := th) (hh := hh) 11 k t hZ hsv hb hk
  have key : ∀ (l u : Nat), l ≤ u → u < 1000 → lsS k = nI l → gsS k = nI u → (∀ x : Int32, (∃ a : Nat, l ≤ a ∧ a ≤ u ∧ x = nI a) → (7 + k = 3 → ∃ t : Nat, x = nI t) ∧ (7 + k = 7 → ∃ a : Nat, 1 ≤ a ∧ a ≤ 9 ∧ x = nI a) ∧ (7 + k = 8 → ∃ a : Nat, a ≤ 9 ∧ x = nI a) ∧ (7 + k = 9 → ∃ a : Nat, 1 ≤ a ∧ a ≤ 200 ∧ x = nI a) ∧ (7 + k = 10 → ∃ a : Nat, a ≤ 5 ∧ x = nI a)) →
      F_5set k t z = (if wi t (nI l) (nI u) = 0 then nI 0 else z (7 + k)) → F_5set_z k t z = (if wi t (nI l) (nI u) = 0 then z else upd z (7 + k) t) → F_5set_ro k t b z ro = (if wi t (nI l) (nI u) = 0 then ro else svR z ro b) → F_5set_sv k t b sv = (if wi t (nI l) (nI u) = 0 then sv else nI (svN b)) → F_5set_th k t = (if wi t (nI l) (nI u) = 0 then nI 2 else nI 0) → PO E M_L_set M_X5_set [.ref 4096, .int (nI k), .int t, .ref 20480] [.ref 16384, .int (nI k), .int t] (ol_ sx sl lsS gsS) (ar T K os sc) (te_ tc tp tl_ tn trd tv tdg tf tla) (pl pg ph pc pm) (mo z sa ro te fr to un ga pi be bm en sta sv ln th hh) ov := by
    intro l u hlu hu el eg hok q1 q2 q3 q4 q5
    rw [q1, q2, q3, q4, q5] at h5
    by_cases c0 : wi t (nI l) (nI u) = 0
    · simp only [if_pos c0] at h5
      exact po_thr (k := nI 2) (by decide) (w_set_A (s_4setB 8 k t hT hk (by rw [el, eg]; exact c0) hex)) (h5 _ _ _ _) (inv_mk hI)
    simp only [if_neg c0] at h5
    obtain ⟨n, n1, n2, n3⟩ := wi_num hlu (by omega) c0
    obtain ⟨g1, g2⟩ := mut_num (k := 7 + k) (x := t) h w (by omega) (by omega) (by omega) (by omega) (by omega) (hok t ⟨n, n1, n2, n3⟩)
    exact po_ok (w_set_O (s_4set 8 k t hT hos ha hsc hb hk (by rw [el, eg]; exact c0))) (h5 _ _ _ _) (inv_mk (hI.save g1 g2)) (h.num (7 + k) (by omega))
  rcases (show k = 0 ∨ k = 1 ∨ k = 2 ∨ k = 3 by omega) with rfl | rfl | rfl | rfl
  · exact key 1 9 (by omega) (by omega) rfl rfl (fun x e => ⟨fun i => absurd i (by omega), fun _ => e, fun i => absurd i (by omega), fun i => absurd i (by omega), fun i => absurd i (by omega)⟩) rfl rfl rfl rfl rfl
  · exact key 0 9 (by omega) (by omega) rfl rfl (fun x e => ⟨fun i => absurd i (by omega), fun i => absurd i (by omega), fun _ => by obtain ⟨a, -, h1, h2⟩ := e; exact ⟨a, h1, h2⟩, fun i => absurd i (by omega), fun i => absurd i (by omega)⟩) rfl rfl rfl rfl rfl
  · exact key 1 200 (by omega) (by omega) rfl rfl (fun x e => ⟨fun i => absurd i (by omega), fun i => absurd i (by omega), fun i => absurd i (by omega), fun _ => e, fun i => absurd i (by omega)⟩) rfl rfl rfl rfl rfl
  · exact key 0 5 (by omega) (by omega) rfl rfl (fun x e => ⟨fun i => absurd i (by omega), fun i => absurd i (by omega), fun i => absurd i (by omega), fun i => absurd i (by omega), fun _ => by obtain ⟨a, -, h1, h2⟩ := e; exact ⟨a, h1, h2⟩⟩) rfl rfl rfl rfl rfl
set_option maxRecDepth 10000 in
theorem p_bar (hex : E.ex = false) (hI : IV T K os sc tc tl_ ph pc z ro te be sv ln nv nc nr ne a b q) (x : Int32) : PO E M_L_bar M_X5_bar [.ref 4096, .int x, .ref 20480] [.ref 16384, .int x] ol (ar T K os sc) (te_ tc tp tl_ tn trd tv tdg tf tla) (pl pg ph pc pm) (mo z sa ro te fr to un ga pi be bm en sta sv ln th hh) ov := by
  obtain ⟨h, w, hS, hos, ha, hsc, hb, hsv, htl, hln, hq, hcd, h4, hbe⟩ := id hI
  have hT := TI_RT h w
  have hZ := w.zi
  by_cases hx1 : ∃ q9 : Nat, q9 < nv ∧ x = nI q9
  rotate_left
  · have h5 := fun (a1 t1 p1 u1 : List AC) => s_5barA (E := E) (o0 := ol) (a0 := a1) (t0 := t1) (p0 := p1) (u0 := u1) (l0 := []) (z := z) (sa := sa) (ro := ro) (te := te) (fr := fr) (to := to) (un := un) (ga := ga) (pi := pi) (be := be) (bm := bm) (en := en) (sta := sta) (sv := sv) (ln := ln) (th := th) (hh := hh) 8 x hZ hx1
    exact po_thr (k := nI 1) (by decide) (w_bar_X (s_4barA 6 x hT hx1 hex)) (h5 _ _ _ _) (inv_mk hI)
  obtain ⟨v, hv, rfl⟩ := hx1
  have h12 := w.nv.2
  have hcN := hcd_N hcd
  rcases bar_cases hq hcd fr to un tp tf tla with ⟨c1, c2⟩ | ⟨c1, c2, c3, c4⟩ | ⟨c1, c2, c3, c4, n, hn, en', etn, hrow⟩
  · have h5 := fun (a1 t1 p1 u1 : List AC) => s_5barB (E := E) (o0 := ol) (a0 := a1) (t0 := t1) (p0 := p1) (u0 := u1) (l0 := []) (z := z) (sa := sa) (ro := ro) (te := te) (fr := fr) (to := to) (un := un) (ga := ga) (pi := pi) (be := be) (bm := bm) (en := en) (sta := sta) (sv := sv) (ln := ln) (th := th) (hh := hh) 8 v hZ hv hln hq c2
    exact po_thr (k := nI 2) (by decide) (w_bar_A (s_4barB 6 v hT hv htl hq hcN c1 hex)) (h5 _ _ _ _) (inv_mk hI)
  · have h5 := fun (a1 t1 p1 u1 : List AC) => s_5barC (E := E) (o0 := ol) (a0 := a1) (t0 := t1) (p0 := p1) (u0 := u1) (l0 := []) (z := z) (sa := sa) (ro := ro) (te := te) (fr := fr) (to := to) (un := un) (ga := ga) (pi := pi) (be := be) (bm := bm) (en := en) (sta := sta) (sv := sv) (ln := ln) (th := th) (hh := hh) 8 v hZ hv hln hq c2 c4
    exact po_thr (k := nI 2) (by decide) (w_bar_A (s_4barC 6 v hT hv htl hq hcN c1 c3 hex)) (h5 _ _ _ _) (inv_mk hI)
  · obtain ⟨A, hA⟩ : ∃ A : Nat → Nat, A = fun e => (F_5read_fr q te fr to un e).toNatClampNeg := ⟨_, rfl⟩
    obtain ⟨B, hB⟩ : ∃ B : Nat → Nat, B = fun e => (F_5lastOf e (F_5read_fr q te fr to un) (F_5read_to q te fr to un)).toNatClampNeg := ⟨_, rfl⟩
    have r1 : ∀ k, k ≤ n → F_5read_fr q te fr to un k = nI (A k) := fun k hk => by rw [hA]; exact (hrow k hk).nat.1
    have r2 : ∀ k, k ≤ n → F_5lastOf k (F_5read_fr q te fr to un) (F_5read_to q te fr to un) = nI (B k) := fun k hk => by rw [hB]; exact (hrow k hk).nat.2.1
    have r3 : ∀ k, k ≤ n → A k ≤ B k ∧ B k < 40 := fun k hk => by rw [hA, hB]; exact ⟨(hrow k hk).nat.2.2.1, (hrow k hk).nat.2.2.2.1⟩
    have r4 : ∀ k, k < n + 1 → F_1read_tp q tc tp tf tla (k * 3 + 0) = nI (A k) := fun k hk => ((hrow k (by omega)).nat.2.2.2.2.1).trans (r1 k (by omega))
    have r5 : ∀ k, k < n + 1 → F_1read_tp q tc tp tf tla (k * 3 + 1) = nI (B k) := fun k hk => ((hrow k (by omega)).nat.2.2.2.2.2.1).trans (r2 k (by omega))
    have r6 : ∀ k, k ≤ n → F_1read_tp q tc tp tf tla (k * 3 + 2) = F_5read_un q te fr to un k := fun k hk => (hrow k hk).nat.2.2.2.2.2.2
    have elt := lt_eq h (show v < 12 by omega)
    have h40 := (w.lv v hv).2
    have gl := great_lt (tp := F_1read_tp q tc tp tf tla) (B := B) (m := lv z v) (by omega) (n + 1) (fun k hk => ⟨r5 k hk, by have := (r3 k (by omega)).2; omega⟩)
    by_cases hall : ∀ k, k ≤ n → B k < lv z v
    · have h5 := fun (a1 t1 p1 u1 : List AC) => s_5bar (E := E) (o0 := ol) (a0 := a1) (t0 := t1) (p0 := p1) (u0 := u1) (l0 := []) (z := z) (sa := sa) (ro := ro) (te := te) (fr := fr) (to := to) (un := un) (ga := ga) (pi := pi) (be := be) (bm := bm) (en := en) (sta := sta) (sv := sv) (ln := ln) (th := th) (hh := hh) 8 v hZ hsv hb hv hln hq c2 c4 en' (by omega) r2 hall r1 r3
      obtain ⟨g1, g2⟩ := mut_bar h w hv r3 r6 (n + 1) (Nat.le_refl _)
      refine po_ok (w_bar_O (s_4bar 6 v hT hos ha hsc hb hv htl hq hcN c1 c3 etn (by omega) (by rw [elt]; exact gl.mpr (fun k hk => hall k (by omega))) r4 r5 (fun k hk => r3 k (by omega)))) (h5 _ _ _ _) (inv_mk (hI.save g1 g2).q0) ?_
      have e1 := lt_eq g1 (show v < 12 by omega)
      have e2 := e_barred g1 (show v < 12 by omega) (lv (L_5bar_87 v q A B z te fr to un (n + 1)) v) (g2.lv v hv).2
      show L_0barredLeaves_4 v (L_4bar_80 v q A B T tc tp tf tla (n + 1)) (lt (L_4bar_80 v q A B T tc tp tf tla (n + 1)) v) = L_5barred_4 v (L_5bar_87 v q A B z te fr to un (n + 1)) (lv (L_5bar_87 v q A B z te fr to un (n + 1)) v)
      rw [e1, e2]
    · obtain ⟨e0, he0, he1, he2⟩ := first_bad hall
      have h5 := fun (a1 t1 p1 u1 : List AC) => s_5barE (E := E) (o0 := ol) (a0 := a1) (t0 := t1) (p0 := p1) (u0 := u1) (l0 := []) (z := z) (sa := sa) (ro := ro) (te := te) (fr := fr) (to := to) (un := un) (ga := ga) (pi := pi) (be := be) (bm := bm) (en := en) (sta := sta) (sv := sv) (ln := ln) (th := th) (hh := hh) 8 v hZ hv hln hq c2 c4 en' (by omega) r2 he0 he2 (by omega) (r3 e0 he0).2
      exact po_thr (k := nI 3) (by decide) (w_bar_S (s_4barE 6 v hT hv htl hq hcN c1 c3 etn (by omega) (by rw [elt]; exact fun x => hall (fun k hk => gl.mp x k (by omega))) hex)) (h5 _ _ _ _) (inv_mk hI)
end PO2
