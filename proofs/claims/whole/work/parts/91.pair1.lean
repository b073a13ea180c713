section PO1
variable {E : AE} {T K : Nat → Nat → Int32} {os sc : Int32} {tc tp : Nat → Int32} {tl_ tn trd tv tdg tf tla : Int32} {pg ph pc : Nat → Int32} {pm : Int32} {z sa ro te fr to un ga pi be : Nat → Int32} {bm en sta sv ln th : Int32} {hh : Int64} {ov : Nat → Int64} {nv nc nr ne a b q : Nat} {ol : List AC}
set_option maxRecDepth 10000 in
theorem p_addVolume (hex : E.ex = false) (hI : IV T K os sc tc tl_ ph pc z ro te be sv ln nv nc nr ne a b q) (b0 b1 b2 b3 : Int32) : PO E M_L_addVolume M_X5_addVolume [.ref 4096, .int b0, .int b1, .int b2, .int b3, .ref 20480] [.ref 16384, .int b0, .int b1, .int b2, .int b3] ol (ar T K os sc) (te_ tc tp tl_ tn trd tv tdg tf tla) (pl pg ph pc pm) (mo z sa ro te fr to un ga pi be bm en sta sv ln th hh) ov := by
  obtain ⟨h, w, hS, hos, ha, hsc, hb, hsv, htl, hln, hq, hcd, h4, hbe⟩ := id hI
  have hT := TI_RT h w
  have hZ := w.zi
  have h5 := fun (a1 t1 p1 u1 : List AC) => s_5addVolume (E := E) (o0 := ol) (a0 := a1) (t0 := t1) (p0 := p1) (u0 := u1) (l0 := []) (z := z) (sa := sa) (ro := ro) (te := te) (fr := fr) (to := to) (un := un) (ga := ga) (pi := pi) (be := be) (bm := bm) (en := en) (sta := sta) (sv := sv) (ln := ln) (th := th) (hh := hh) 11 b0 b1 b2 b3 hZ hsv hb
  unfold F_5addVolume F_5addVolume_z F_5addVolume_ro F_5addVolume_sv F_5addVolume_th at h5
  by_cases c0 : wi b0 (nI 0) (nI 19) = 0
  · simp only [if_pos c0] at h5
    exact po_thr (k := nI 1) (by decide) (w_addVolume_A (s_4addVolumeA 8 b0 b1 b2 b3 hT c0 hex)) (h5 _ _ _ _) (inv_mk hI)
  simp only [if_neg c0] at h5
  by_cases c1 : wi b1 (nI 1) (nI 3) = 0
  · simp only [if_pos c1] at h5
    exact po_thr (k := nI 1) (by decide) (w_addVolume_A (s_4addVolumeB 8 b0 b1 b2 b3 hT c0 c1 hex)) (h5 _ _ _ _) (inv_mk hI)
  simp only [if_neg c1] at h5
  by_cases c2 : wi b2 (nI 1) (nI 40) = 0
  · simp only [if_pos c2] at h5
    exact po_thr (k := nI 1) (by decide) (w_addVolume_A (s_4addVolumeC 8 b0 b1 b2 b3 hT c0 c1 c2 hex)) (h5 _ _ _ _) (inv_mk hI)
  simp only [if_neg c2] at h5
  by_cases c3 : wi b3 (nI 0) (nI 3) = 0
  · simp only [if_pos c3] at h5
    exact po_thr (k := nI 1) (by decide) (w_addVolume_A (s_4addVolumeD 8 b0 b1 b2 b3 hT c0 c1 c2 c3 hex)) (h5 _ _ _ _) (inv_mk hI)
  simp only [if_neg c3] at h5
  by_cases c4 : nv = 12
  · simp only [if_pos c4] at h5
    exact po_thr (k := nI 2) (by decide) (w_addVolume_S (s_4addVolumeE 8 b0 b1 b2 b3 hT c0 c1 c2 c3 c4 hex)) (h5 _ _ _ _) (inv_mk hI)
  simp only [if_neg c4] at h5
  have h12 := w.nv.2
  obtain ⟨n0, -, l0, rfl⟩ := wi_num (by omega) (by omega) c0
  obtain ⟨n1, -, l1, rfl⟩ := wi_num (by omega) (by omega) c1
  obtain ⟨n2, -, l2, rfl⟩ := wi_num (by omega) (by omega) c2
  obtain ⟨n3, -, l3, rfl⟩ := wi_num (by omega) (by omega) c3
  obtain ⟨g1, g2⟩ := mut_volume h w (by omega) l0 l1 l2 l3
  exact po_ok (w_addVolume_O (s_4addVolume 8 _ _ _ _ hT hos ha hsc hb c0 c1 c2 c3 (by omega))) (h5 _ _ _ _) (inv_mk (hI.save g1 g2)) (nI_p1 nv).symm
set_option maxRecDepth 10000 in
theorem p_addCradle (hex : E.ex = false) (hI : IV T K os sc tc tl_ ph pc z ro te be sv ln nv nc nr ne a b q) (b0 b1 : Int32) : PO E M_L_addCradle M_X5_addCradle [.ref 4096, .int b0, .int b1, .ref 20480] [.ref 16384, .int b0, .int b1] ol (ar T K os sc) (te_ tc tp tl_ tn trd tv tdg tf tla) (pl pg ph pc pm) (mo z sa ro te fr to un ga pi be bm en sta sv ln th hh) ov := by
  obtain ⟨h, w, hS, hos, ha, hsc, hb, hsv, htl, hln, hq, hcd, h4, hbe⟩ := id hI
  have hT := TI_RT h w
  have hZ := w.zi
  have h5 := fun (a1 t1 p1 u1 : List AC) => s_5addCradle (E := E) (o0 := ol) (a0 := a1) (t0 := t1) (p0 := p1) (u0 := u1) (l0 := []) (z := z) (sa := sa) (ro := ro) (te := te) (fr := fr) (to := to) (un := un) (ga := ga) (pi := pi) (be := be) (bm := bm) (en := en) (sta := sta) (sv := sv) (ln := ln) (th := th) (hh := hh) 11 b0 b1 hZ hsv hb
  unfold F_5addCradle F_5addCradle_z F_5addCradle_ro F_5addCradle_sv F_5addCradle_th at h5
  by_cases c0 : wi b0 (nI 1) (nI 3) = 0
  · simp only [if_pos c0] at h5
    exact po_thr (k := nI 1) (by decide) (w_addCradle_A (s_4addCradleA 8 b0 b1 hT c0 hex)) (h5 _ _ _ _) (inv_mk hI)
  simp only [if_neg c0] at h5
  by_cases c1 : wi b1 (nI 0) (nI 2) = 0
  · simp only [if_pos c1] at h5
    exact po_thr (k := nI 1) (by decide) (w_addCradle_A (s_4addCradleB 8 b0 b1 hT c0 c1 hex)) (h5 _ _ _ _) (inv_mk hI)
  simp only [if_neg c1] at h5
  by_cases c4 : nc = 4
  · simp only [if_pos c4] at h5
    exact po_thr (k := nI 2) (by decide) (w_addCradle_S (s_4addCradleE 8 b0 b1 hT c0 c1 c4 hex)) (h5 _ _ _ _) (inv_mk hI)
  simp only [if_neg c4] at h5
  have h4c := w.nc.2
  obtain ⟨n1, -, l1, e1⟩ := wi_num (by omega) (by omega) c1
  obtain ⟨g1, g2⟩ := mut_cradle (b0 := b0) h w (by omega) l1 e1
  exact po_ok (w_addCradle_O (s_4addCradle 8 _ _ hT hos ha hsc hb c0 c1 (by omega))) (h5 _ _ _ _) (inv_mk (hI.save g1 g2)) (nI_p1 nc).symm
set_option maxRecDepth 10000 in
theorem p_addCarrier (hex : E.ex = false) (hI : IV T K os sc tc tl_ ph pc z ro te be sv ln nv nc nr ne a b q) : PO E M_L_addCarrier M_X5_addCarrier [.ref 4096, .ref 20480] [.ref 16384] ol (ar T K os sc) (te_ tc tp tl_ tn trd tv tdg tf tla) (pl pg ph pc pm) (mo z sa ro te fr to un ga pi be bm en sta sv ln th hh) ov := by
  obtain ⟨h, w, hS, hos, ha, hsc, hb, hsv, htl, hln, hq, hcd, h4, hbe⟩ := id hI
  have hT := TI_RT h w
  have hZ := w.zi
  have h5 := fun (a1 t1 p1 u1 : List AC) => s_5addCarrier (E := E) (o0 := ol) (a0 := a1) (t0 := t1) (p0 := p1) (u0 := u1) (l0 := []) (z := z) (sa := sa) (ro := ro) (te := te) (fr := fr) (to := to) (un := un) (ga := ga) (pi := pi) (be := be) (bm := bm) (en := en) (sta := sta) (sv := sv) (ln := ln) (th := th) (hh := hh) 11 hZ hsv hb
  unfold F_5addCarrier F_5addCarrier_z F_5addCarrier_ro F_5addCarrier_sv F_5addCarrier_th at h5
  by_cases c4 : nr = 3
  · simp only [if_pos c4] at h5
    exact po_thr (k := nI 1) (by decide) (w_addCarrier_S (s_4addCarrierE 8 hT c4 hex)) (h5 _ _ _ _) (inv_mk hI)
  simp only [if_neg c4] at h5
  have h3c := w.nr.2
  obtain ⟨g1, g2⟩ := mut_carrier h w (by omega)
  exact po_ok (w_addCarrier_O (s_4addCarrier 8 hT hos ha hsc hb (by omega))) (h5 _ _ _ _) (inv_mk (hI.save g1 g2)) (nI_p1 nr).symm
set_option maxRecDepth 10000 in
theorem p_setYear (hex : E.ex = false) (hI : IV T K os sc tc tl_ ph pc z ro te be sv ln nv nc nr ne a b q) (y : Int32) : PO E M_L_setYear M_X5_setYear [.ref 4096, .int y, .ref 20480] [.ref 16384, .int y] ol (ar T K os sc) (te_ tc tp tl_ tn trd tv tdg tf tla) (pl pg ph pc pm) (mo z sa ro te fr to un ga pi be bm en sta sv ln th hh) ov := by
  obtain ⟨h, w, hS, hos, ha, hsc, hb, hsv, htl, hln, hq, hcd, h4, hbe⟩ := id hI
  have hT := TI_RT h w
  have hZ := w.zi
  have h5 := fun (a1 t1 p1 u1 : List AC) => s_5setYear (E := E) (o0 := ol) (a0 := a1) (t0 := t1) (p0 := p1) (u0 := u1) (l0 := []) (z := z) (sa := sa) (ro := ro) (te := te) (fr := fr) (to := to) (un := un) (ga := ga) (pi := pi) (be := be) (bm := bm) (en := en) (sta := sta) (sv := sv) (ln := ln) (th := th) (hh := hh) 11 y hZ hsv hb
  unfold F_5setYear F_5setYear_z F_5setYear_ro F_5setYear_sv F_5setYear_th at h5
  by_cases c4 : wi y (nI 1800) (nI 2199) = 0
  · simp only [if_pos c4] at h5
    exact po_thr (k := nI 1) (by decide) (w_setYear_A (s_4setYearA 8 y hT c4 hex)) (h5 _ _ _ _) (inv_mk hI)
  simp only [if_neg c4] at h5
  obtain ⟨g1, g2⟩ := mut_year h w y
  exact po_ok (w_setYear_O (s_4setYear 8 y hT hos ha hsc hb c4)) (h5 _ _ _ _) (inv_mk (hI.save g1 g2)) (h.num 4 (by omega))
end PO1
