section PO3
variable {E : AE} {T K : Nat → Nat → Int32} {os sc : Int32} {tc tp : Nat → Int32} {tl_ tn trd tv tdg tf tla : Int32} {pg ph pc : Nat → Int32} {pm : Int32} {z sa ro te fr to un ga pi be : Nat → Int32} {bm en sta sv ln th : Int32} {hh : Int64} {ov : Nat → Int64} {nv nc nr ne a b q : Nat} {ol : List AC}
set_option maxRecDepth 10000 in
theorem p_volume (hex : E.ex = false) (hI : IV T K os sc tc tl_ ph pc z ro te be sv ln nv nc nr ne a b q) (x y : Int32) : PO E M_L_volume M_X5_volume [.ref 4096, .int x, .int y, .ref 20480] [.ref 16384, .int x, .int y] ol (ar T K os sc) (te_ tc tp tl_ tn trd tv tdg tf tla) (pl pg ph pc pm) (mo z sa ro te fr to un ga pi be bm en sta sv ln th hh) ov := by
  obtain ⟨h, w, hS, hos, ha, hsc, hb, hsv, htl, hln, hq, hcd, h4, hbe⟩ := id hI
  have hT := TI_RT h w
  have hZ := w.zi
  by_cases hx1 : ∃ q9 : Nat, q9 < nv ∧ x = nI q9
  rotate_left
  · have h5 := fun (a1 t1 p1 u1 : List AC) => s_5volumeA (E := E) (o0 := ol) (a0 := a1) (t0 := t1) (p0 := p1) (u0 := u1) (l0 := []) (z := z) (sa := sa) (ro := ro) (te := te) (fr := fr) (to := to) (un := un) (ga := ga) (pi := pi) (be := be) (bm := bm) (en := en) (sta := sta) (sv := sv) (ln := ln) (th := th) (hh := hh) 8 x y hZ hx1
    exact po_thr (k := nI 1) (by decide) (w_volume_X (s_4volumeA 7 x y hT hx1 hex)) (h5 _ _ _ _) (inv_mk hI)
  obtain ⟨v, hv, rfl⟩ := hx1
  by_cases c1 : wi y (nI 0) (nI 11) = 0
  · have h5 := fun (a1 t1 p1 u1 : List AC) => s_5volumeB (E := E) (o0 := ol) (a0 := a1) (t0 := t1) (p0 := p1) (u0 := u1) (l0 := []) (z := z) (sa := sa) (ro := ro) (te := te) (fr := fr) (to := to) (un := un) (ga := ga) (pi := pi) (be := be) (bm := bm) (en := en) (sta := sta) (sv := sv) (ln := ln) (th := th) (hh := hh) 8 v y hZ hv c1
    exact po_thr (k := nI 2) (by decide) (w_volume_A (s_4volumeB 7 v y hT hv c1 hex)) (h5 _ _ _ _) (inv_mk hI)
  obtain ⟨n, l1, m1, rfl⟩ := wi_num (by omega) (by omega) c1
  have h5 := fun (a1 t1 p1 u1 : List AC) => s_5volume (E := E) (o0 := ol) (a0 := a1) (t0 := t1) (p0 := p1) (u0 := u1) (l0 := []) (z := z) (sa := sa) (ro := ro) (te := te) (fr := fr) (to := to) (un := un) (ga := ga) (pi := pi) (be := be) (bm := bm) (en := en) (sta := sta) (sv := sv) (ln := ln) (th := th) (hh := hh) 8 v n hZ hv (by omega)
  exact po_ok (w_volume_O (s_4volume 7 v n hT hv (by omega))) (h5 _ _ _ _) (inv_mk hI) (e_volume h w hv (by omega))
set_option maxRecDepth 10000 in
theorem p_leaf (hex : E.ex = false) (hI : IV T K os sc tc tl_ ph pc z ro te be sv ln nv nc nr ne a b q) (x y t : Int32) : PO E M_L_leaf M_X5_leaf [.ref 4096, .int x, .int y, .int t, .ref 20480] [.ref 16384, .int x, .int y, .int t] ol (ar T K os sc) (te_ tc tp tl_ tn trd tv tdg tf tla) (pl pg ph pc pm) (mo z sa ro te fr to un ga pi be bm en sta sv ln th hh) ov := by
  obtain ⟨h, w, hS, hos, ha, hsc, hb, hsv, htl, hln, hq, hcd, h4, hbe⟩ := id hI
  have hT := TI_RT h w
  have hZ := w.zi
  by_cases hx1 : ∃ q9 : Nat, q9 < nv ∧ x = nI q9
  rotate_left
  · have h5 := fun (a1 t1 p1 u1 : List AC) => s_5leafA (E := E) (o0 := ol) (a0 := a1) (t0 := t1) (p0 := p1) (u0 := u1) (l0 := []) (z := z) (sa := sa) (ro := ro) (te := te) (fr := fr) (to := to) (un := un) (ga := ga) (pi := pi) (be := be) (bm := bm) (en := en) (sta := sta) (sv := sv) (ln := ln) (th := th) (hh := hh) 9 x y t hZ hx1
    exact po_thr (k := nI 1) (by decide) (w_leaf_X (s_4leafA 7 x y t hT hx1 hex)) (h5 _ _ _ _) (inv_mk hI)
  obtain ⟨v, hv, rfl⟩ := hx1
  have h12 := w.nv.2
  have elt := lt_eq h (show v < 12 by omega)
  have h40 := (w.lv v hv).2
  by_cases hx2 : ∃ q9 : Nat, q9 < lv z v ∧ y = nI q9
  rotate_left
  · have h5 := fun (a1 t1 p1 u1 : List AC) => s_5leafB (E := E) (o0 := ol) (a0 := a1) (t0 := t1) (p0 := p1) (u0 := u1) (l0 := []) (z := z) (sa := sa) (ro := ro) (te := te) (fr := fr) (to := to) (un := un) (ga := ga) (pi := pi) (be := be) (bm := bm) (en := en) (sta := sta) (sv := sv) (ln := ln) (th := th) (hh := hh) 9 v y t hZ hv hx2
    exact po_thr (k := nI 1) (by decide) (w_leaf_X (s_4leafB 7 v y t hT hv (by rw [elt]; exact hx2) hex)) (h5 _ _ _ _) (inv_mk hI)
  obtain ⟨k, hk, rfl⟩ := hx2
  by_cases c1 : wi t (nI 0) (nI 3) = 0
  · have h5 := fun (a1 t1 p1 u1 : List AC) => s_5leafC (E := E) (o0 := ol) (a0 := a1) (t0 := t1) (p0 := p1) (u0 := u1) (l0 := []) (z := z) (sa := sa) (ro := ro) (te := te) (fr := fr) (to := to) (un := un) (ga := ga) (pi := pi) (be := be) (bm := bm) (en := en) (sta := sta) (sv := sv) (ln := ln) (th := th) (hh := hh) 9 v k t hZ hv hk c1
    exact po_thr (k := nI 2) (by decide) (w_leaf_A (s_4leafC 7 v k t hT hv (by rw [elt]; exact hk) c1 hex)) (h5 _ _ _ _) (inv_mk hI)
  obtain ⟨n, l1, m1, rfl⟩ := wi_num (by omega) (by omega) c1
  have h5 := fun (a1 t1 p1 u1 : List AC) => s_5leaf (E := E) (o0 := ol) (a0 := a1) (t0 := t1) (p0 := p1) (u0 := u1) (l0 := []) (z := z) (sa := sa) (ro := ro) (te := te) (fr := fr) (to := to) (un := un) (ga := ga) (pi := pi) (be := be) (bm := bm) (en := en) (sta := sta) (sv := sv) (ln := ln) (th := th) (hh := hh) 9 v k n hZ hv hk (by omega)
  exact po_ok (w_leaf_O (s_4leaf 7 v k n hT hv (by rw [elt]; exact hk) (by omega))) (h5 _ _ _ _) (inv_mk hI) (e_leaf h (by omega) (by omega) (by omega))
set_option maxRecDepth 10000 in
theorem p_cradle (hex : E.ex = false) (hI : IV T K os sc tc tl_ ph pc z ro te be sv ln nv nc nr ne a b q) (x y : Int32) : PO E M_L_cradle M_X5_cradle [.ref 4096, .int x, .int y, .ref 20480] [.ref 16384, .int x, .int y] ol (ar T K os sc) (te_ tc tp tl_ tn trd tv tdg tf tla) (pl pg ph pc pm) (mo z sa ro te fr to un ga pi be bm en sta sv ln th hh) ov := by
  obtain ⟨h, w, hS, hos, ha, hsc, hb, hsv, htl, hln, hq, hcd, h4, hbe⟩ := id hI
  have hT := TI_RT h w
  have hZ := w.zi
  by_cases hx1 : ∃ q9 : Nat, q9 < nc ∧ x = nI q9
  rotate_left
  · have h5 := fun (a1 t1 p1 u1 : List AC) => s_5cradleA (E := E) (o0 := ol) (a0 := a1) (t0 := t1) (p0 := p1) (u0 := u1) (l0 := []) (z := z) (sa := sa) (ro := ro) (te := te) (fr := fr) (to := to) (un := un) (ga := ga) (pi := pi) (be := be) (bm := bm) (en := en) (sta := sta) (sv := sv) (ln := ln) (th := th) (hh := hh) 8 x y hZ hx1
    exact po_thr (k := nI 1) (by decide) (w_cradle_X (s_4cradleA 7 x y hT hx1 hex)) (h5 _ _ _ _) (inv_mk hI)
  obtain ⟨c, hc, rfl⟩ := hx1
  by_cases c1 : wi y (nI 0) (nI 5) = 0
  · have h5 := fun (a1 t1 p1 u1 : List AC) => s_5cradleB (E := E) (o0 := ol) (a0 := a1) (t0 := t1) (p0 := p1) (u0 := u1) (l0 := []) (z := z) (sa := sa) (ro := ro) (te := te) (fr := fr) (to := to) (un := un) (ga := ga) (pi := pi) (be := be) (bm := bm) (en := en) (sta := sta) (sv := sv) (ln := ln) (th := th) (hh := hh) 8 c y hZ hc c1
    exact po_thr (k := nI 2) (by decide) (w_cradle_A (s_4cradleB 7 c y hT hc c1 hex)) (h5 _ _ _ _) (inv_mk hI)
  obtain ⟨n, l1, m1, rfl⟩ := wi_num (by omega) (by omega) c1
  have h5 := fun (a1 t1 p1 u1 : List AC) => s_5cradle (E := E) (o0 := ol) (a0 := a1) (t0 := t1) (p0 := p1) (u0 := u1) (l0 := []) (z := z) (sa := sa) (ro := ro) (te := te) (fr := fr) (to := to) (un := un) (ga := ga) (pi := pi) (be := be) (bm := bm) (en := en) (sta := sta) (sv := sv) (ln := ln) (th := th) (hh := hh) 8 c n hZ hc (by omega)
  exact po_ok (w_cradle_O (s_4cradle 7 c n hT hc (by omega))) (h5 _ _ _ _) (inv_mk hI) (e_cradle h w hc (by omega))
set_option maxRecDepth 10000 in
theorem p_carrier (hex : E.ex = false) (hI : IV T K os sc tc tl_ ph pc z ro te be sv ln nv nc nr ne a b q) (x y : Int32) : PO E M_L_carrier M_X5_carrier [.ref 4096, .int x, .int y, .ref 20480] [.ref 16384, .int x, .int y] ol (ar T K os sc) (te_ tc tp tl_ tn trd tv tdg tf tla) (pl pg ph pc pm) (mo z sa ro te fr to un ga pi be bm en sta sv ln th hh) ov := by
  obtain ⟨h, w, hS, hos, ha, hsc, hb, hsv, htl, hln, hq, hcd, h4, hbe⟩ := id hI
  have hT := TI_RT h w
  have hZ := w.zi
  by_cases hx1 : ∃ q9 : Nat, q9 < nr ∧ x = nI q9
  rotate_left
  · have h5 := fun (a1 t1 p1 u1 : List AC) => s_5carrierA (E := E) (o0 := ol) (a0 := a1) (t0 := t1) (p0 := p1) (u0 := u1) (l0 := []) (z := z) (sa := sa) (ro := ro) (te := te) (fr := fr) (to := to) (un := un) (ga := ga) (pi := pi) (be := be) (bm := bm) (en := en) (sta := sta) (sv := sv) (ln := ln) (th := th) (hh := hh) 10 x y hZ hx1
    exact po_thr (k := nI 1) (by decide) (w_carrier_X (s_4carrierA 8 x y hT hx1 hex)) (h5 _ _ _ _) (inv_mk hI)
  obtain ⟨r, hr, rfl⟩ := hx1
  have h3c := w.nr.2
  by_cases c1 : wi y (nI 0) (nI 3) = 0
  · have h5 := fun (a1 t1 p1 u1 : List AC) => s_5carrierB (E := E) (o0 := ol) (a0 := a1) (t0 := t1) (p0 := p1) (u0 := u1) (l0 := []) (z := z) (sa := sa) (ro := ro) (te := te) (fr := fr) (to := to) (un := un) (ga := ga) (pi := pi) (be := be) (bm := bm) (en := en) (sta := sta) (sv := sv) (ln := ln) (th := th) (hh := hh) 10 r y hZ hr c1
    exact po_thr (k := nI 2) (by decide) (w_carrier_A (s_4carrierB 8 r y hT hr c1 hex)) (h5 _ _ _ _) (inv_mk hI)
  obtain ⟨n, l1, m1, rfl⟩ := wi_num (by omega) (by omega) c1
  have h5 := fun (a1 t1 p1 u1 : List AC) => s_5carrier (E := E) (o0 := ol) (a0 := a1) (t0 := t1) (p0 := p1) (u0 := u1) (l0 := []) (z := z) (sa := sa) (ro := ro) (te := te) (fr := fr) (to := to) (un := un) (ga := ga) (pi := pi) (be := be) (bm := bm) (en := en) (sta := sta) (sv := sv) (ln := ln) (th := th) (hh := hh) 10 r n hZ hr (by omega)
  exact po_ok (w_carrier_O (s_4carrier 8 r n hT hr (by omega))) (h5 _ _ _ _) (inv_mk hI) (h.car r n (by omega) (by omega))
set_option maxRecDepth 10000 in
theorem p_log (hex : E.ex = false) (hI : IV T K os sc tc tl_ ph pc z ro te be sv ln nv nc nr ne a b q) (x y : Int32) : PO E M_L_log M_X5_log [.ref 4096, .int x, .int y, .ref 20480] [.ref 16384, .int x, .int y] ol (ar T K os sc) (te_ tc tp tl_ tn trd tv tdg tf tla) (pl pg ph pc pm) (mo z sa ro te fr to un ga pi be bm en sta sv ln th hh) ov := by
  obtain ⟨h, w, hS, hos, ha, hsc, hb, hsv, htl, hln, hq, hcd, h4, hbe⟩ := id hI
  have hT := TI_RT h w
  have hZ := w.zi
  by_cases hx1 : ∃ q9 : Nat, q9 < ne ∧ x = nI q9
  rotate_left
  · have h5 := fun (a1 t1 p1 u1 : List AC) => s_5logA (E := E) (o0 := ol) (a0 := a1) (t0 := t1) (p0 := p1) (u0 := u1) (l0 := []) (z := z) (sa := sa) (ro := ro) (te := te) (fr := fr) (to := to) (un := un) (ga := ga) (pi := pi) (be := be) (bm := bm) (en := en) (sta := sta) (sv := sv) (ln := ln) (th := th) (hh := hh) 11 x y hZ hx1
    exact po_thr (k := nI 1) (by decide) (w_log_X (s_4logA 9 x y hT hx1 hex)) (h5 _ _ _ _) (inv_mk hI)
  obtain ⟨e, he, rfl⟩ := hx1
  have h6c := w.ne.2
  by_cases c1 : wi y (nI 0) (nI 4) = 0
  · have h5 := fun (a1 t1 p1 u1 : List AC) => s_5logB (E := E) (o0 := ol) (a0 := a1) (t0 := t1) (p0 := p1) (u0 := u1) (l0 := []) (z := z) (sa := sa) (ro := ro) (te := te) (fr := fr) (to := to) (un := un) (ga := ga) (pi := pi) (be := be) (bm := bm) (en := en) (sta := sta) (sv := sv) (ln := ln) (th := th) (hh := hh) 11 e y hZ he c1
    exact po_thr (k := nI 2) (by decide) (w_log_A (s_4logB 9 e y hT he c1 hex)) (h5 _ _ _ _) (inv_mk hI)
  obtain ⟨n, l1, m1, rfl⟩ := wi_num (by omega) (by omega) c1
  have h5 := fun (a1 t1 p1 u1 : List AC) => s_5log (E := E) (o0 := ol) (a0 := a1) (t0 := t1) (p0 := p1) (u0 := u1) (l0 := []) (z := z) (sa := sa) (ro := ro) (te := te) (fr := fr) (to := to) (un := un) (ga := ga) (pi := pi) (be := be) (bm := bm) (en := en) (sta := sta) (sv := sv) (ln := ln) (th := th) (hh := hh) 11 e n hZ he (by omega)
  exact po_ok (w_log_O (s_4log 9 e n hT he (by omega))) (h5 _ _ _ _) (inv_mk hI) (h.ent e n (by omega) (by omega))
set_option maxRecDepth 10000 in
theorem p_whereAt (hex : E.ex = false) (hI : IV T K os sc tc tl_ ph pc z ro te be sv ln nv nc nr ne a b q) (x y : Int32) : PO E M_L_whereAt M_X5_whereAt [.ref 4096, .int x, .int y, .ref 20480] [.ref 16384, .int x, .int y] ol (ar T K os sc) (te_ tc tp tl_ tn trd tv tdg tf tla) (pl pg ph pc pm) (mo z sa ro te fr to un ga pi be bm en sta sv ln th hh) ov := by
  obtain ⟨h, w, hS, hos, ha, hsc, hb, hsv, htl, hln, hq, hcd, h4, hbe⟩ := id hI
  have hT := TI_RT h w
  have hZ := w.zi
  by_cases hx1 : ∃ q9 : Nat, q9 < nv ∧ x = nI q9
  rotate_left
  · have h5 := fun (a1 t1 p1 u1 : List AC) => s_5whereAtA (E := E) (o0 := ol) (a0 := a1) (t0 := t1) (p0 := p1) (u0 := u1) (l0 := []) (z := z) (sa := sa) (ro := ro) (te := te) (fr := fr) (to := to) (un := un) (ga := ga) (pi := pi) (be := be) (bm := bm) (en := en) (sta := sta) (sv := sv) (ln := ln) (th := th) (hh := hh) 10 x y hZ hx1
    exact po_thr (k := nI 1) (by decide) (w_whereAt_X (s_4whereAtA 8 x y hT hx1 hex)) (h5 _ _ _ _) (inv_mk hI)
  obtain ⟨v, hv, rfl⟩ := hx1
  have h5 := fun (a1 t1 p1 u1 : List AC) => s_5whereAt (E := E) (o0 := ol) (a0 := a1) (t0 := t1) (p0 := p1) (u0 := u1) (l0 := []) (z := z) (sa := sa) (ro := ro) (te := te) (fr := fr) (to := to) (un := un) (ga := ga) (pi := pi) (be := be) (bm := bm) (en := en) (sta := sta) (sv := sv) (ln := ln) (th := th) (hh := hh) 10 v y hZ hv
  unfold F_5whereAt F_5whereAt_th at h5
  have e3 := h.num 3 (by omega)
  by_cases c1 : wi y (nI 0) (z 3) = 0
  · simp only [if_pos c1] at h5
    exact po_thr (k := nI 2) (by decide) (w_whereAt_A (s_4whereAtB 8 v y hT hv (by rw [e3]; exact c1) hex)) (h5 _ _ _ _) (inv_mk hI)
  simp only [if_neg c1] at h5
  exact po_ok (w_whereAt_O (s_4whereAt 8 v y hT hv (by rw [e3]; exact c1))) (h5 _ _ _ _) (inv_mk hI) (e_place h (nI v) y ne w.ne.2)
set_option maxRecDepth 10000 in
theorem p_count (hex : E.ex = false) (hI : IV T K os sc tc tl_ ph pc z ro te be sv ln nv nc nr ne a b q) (y : Int32) : PO E M_L_count M_X5_count [.ref 4096, .int y, .ref 20480] [.ref 16384, .int y] ol (ar T K os sc) (te_ tc tp tl_ tn trd tv tdg tf tla) (pl pg ph pc pm) (mo z sa ro te fr to un ga pi be bm en sta sv ln th hh) ov := by
  obtain ⟨h, w, hS, hos, ha, hsc, hb, hsv, htl, hln, hq, hcd, h4, hbe⟩ := id hI
  have hT := TI_RT h w
  have hZ := w.zi
  by_cases c1 : wi y (nI 0) (nI 13) = 0
  · have h5 := fun (a1 t1 p1 u1 : List AC) => s_5countA (E := E) (o0 := ol) (a0 := a1) (t0 := t1) (p0 := p1) (u0 := u1) (l0 := []) (z := z) (sa := sa) (ro := ro) (te := te) (fr := fr) (to := to) (un := un) (ga := ga) (pi := pi) (be := be) (bm := bm) (en := en) (sta := sta) (sv := sv) (ln := ln) (th := th) (hh := hh) 6 y c1
    exact po_thr (k := nI 1) (by decide) (w_count_A (s_4countA 5 y c1 hex)) (h5 _ _ _ _) (inv_mk hI)
  obtain ⟨n, l1, m1, rfl⟩ := wi_num (by omega) (by omega) c1
  have h5 := fun (a1 t1 p1 u1 : List AC) => s_5count (E := E) (o0 := ol) (a0 := a1) (t0 := t1) (p0 := p1) (u0 := u1) (l0 := []) (z := z) (sa := sa) (ro := ro) (te := te) (fr := fr) (to := to) (un := un) (ga := ga) (pi := pi) (be := be) (bm := bm) (en := en) (sta := sta) (sv := sv) (ln := ln) (th := th) (hh := hh) 6 n hZ (by omega)
  exact po_ok (w_count_O (s_4count 5 n hT (by omega))) (h5 _ _ _ _) (inv_mk hI) (by rw [hsc, hsv]; exact e_total h w (by omega) (nI b))
set_option maxRecDepth 10000 in
theorem p_setting (hex : E.ex = false) (hI : IV T K os sc tc tl_ ph pc z ro te be sv ln nv nc nr ne a b q) (x : Int32) : PO E M_L_setting M_X5_setting [.ref 4096, .int x, .ref 20480] [.ref 16384, .int x] ol (ar T K os sc) (te_ tc tp tl_ tn trd tv tdg tf tla) (pl pg ph pc pm) (mo z sa ro te fr to un ga pi be bm en sta sv ln th hh) ov := by
  obtain ⟨h, w, hS, hos, ha, hsc, hb, hsv, htl, hln, hq, hcd, h4, hbe⟩ := id hI
  have hT := TI_RT h w
  have hZ := w.zi
  by_cases hx1 : ∃ q9 : Nat, q9 < 4 ∧ x = nI q9
  rotate_left
  · have h5 := fun (a1 t1 p1 u1 : List AC) => s_5settingA (E := E) (o0 := ol) (a0 := a1) (t0 := t1) (p0 := p1) (u0 := u1) (l0 := []) (z := z) (sa := sa) (ro := ro) (te := te) (fr := fr) (to := to) (un := un) (ga := ga) (pi := pi) (be := be) (bm := bm) (en := en) (sta := sta) (sv := sv) (ln := ln) (th := th) (hh := hh) 11 x (wi_bad4 (by omega) hx1)
    exact po_thr (k := nI 1) (by decide) (w_setting_X (s_4settingA 9 x hx1 hex)) (h5 _ _ _ _) (inv_mk hI)
  obtain ⟨k, hk, rfl⟩ := hx1
  have h5 := fun (a1 t1 p1 u1 : List AC) => s_5setting (E := E) (o0 := ol) (a0 := a1) (t0 := t1) (p0 := p1) (u0 := u1) (l0 := []) (z := z) (sa := sa) (ro := ro) (te := te) (fr := fr) (to := to) (un := un) (ga := ga) (pi := pi) (be := be) (bm := bm) (en := en) (sta := sta) (sv := sv) (ln := ln) (th := th) (hh := hh) 11 k hk
  exact po_ok (w_setting_O (s_4setting 9 k hk)) (h5 _ _ _ _) (inv_mk hI) (h.num (7 + k) (by omega))
set_option maxRecDepth 10000 in
theorem p_whyNot (hex : E.ex = false) (hI : IV T K os sc tc tl_ ph pc z ro te be sv ln nv nc nr ne a b q) (x y t : Int32) : PO E M_L_whyNot M_X5_whyNot [.ref 4096, .int x, .int y, .int t, .ref 20480] [.ref 16384, .int x, .int y, .int t] ol (ar T K os sc) (te_ tc tp tl_ tn trd tv tdg tf tla) (pl pg ph pc pm) (mo z sa ro te fr to un ga pi be bm en sta sv ln th hh) ov := by
  obtain ⟨h, w, hS, hos, ha, hsc, hb, hsv, htl, hln, hq, hcd, h4, hbe⟩ := id hI
  have hT := TI_RT h w
  have hZ := w.zi
  by_cases hx1 : ∃ q9 : Nat, q9 < nv ∧ x = nI q9
  rotate_left
  · have h5 := fun (a1 t1 p1 u1 : List AC) => s_5whyNotA (E := E) (o0 := ol) (a0 := a1) (t0 := t1) (p0 := p1) (u0 := u1) (l0 := []) (z := z) (sa := sa) (ro := ro) (te := te) (fr := fr) (to := to) (un := un) (ga := ga) (pi := pi) (be := be) (bm := bm) (en := en) (sta := sta) (sv := sv) (ln := ln) (th := th) (hh := hh) 9 x y t hZ hx1
    exact po_thr (k := nI 1) (by decide) (w_whyNot_X (s_4whyNotA 8 x y t hT hx1 hex)) (h5 _ _ _ _) (inv_mk hI)
  obtain ⟨v, hv, rfl⟩ := hx1
  by_cases hx2 : ∃ q9 : Nat, q9 < nc ∧ y = nI q9
  rotate_left
  · have h5 := fun (a1 t1 p1 u1 : List AC) => s_5whyNotB (E := E) (o0 := ol) (a0 := a1) (t0 := t1) (p0 := p1) (u0 := u1) (l0 := []) (z := z) (sa := sa) (ro := ro) (te := te) (fr := fr) (to := to) (un := un) (ga := ga) (pi := pi) (be := be) (bm := bm) (en := en) (sta := sta) (sv := sv) (ln := ln) (th := th) (hh := hh) 9 v y t hZ hv hx2
    exact po_thr (k := nI 1) (by decide) (w_whyNot_X (s_4whyNotB 8 v y t hT hv hx2 hex)) (h5 _ _ _ _) (inv_mk hI)
  obtain ⟨c, hc, rfl⟩ := hx2
  by_cases hx3 : ∃ q9 : Nat, q9 < nr ∧ t = nI q9
  rotate_left
  · have h5 := fun (a1 t1 p1 u1 : List AC) => s_5whyNotC (E := E) (o0 := ol) (a0 := a1) (t0 := t1) (p0 := p1) (u0 := u1) (l0 := []) (z := z) (sa := sa) (ro := ro) (te := te) (fr := fr) (to := to) (un := un) (ga := ga) (pi := pi) (be := be) (bm := bm) (en := en) (sta := sta) (sv := sv) (ln := ln) (th := th) (hh := hh) 9 v c t hZ hv hc hx3
    exact po_thr (k := nI 1) (by decide) (w_whyNot_X (s_4whyNotC 8 v c t hT hv hc hx3 hex)) (h5 _ _ _ _) (inv_mk hI)
  obtain ⟨r, hr, rfl⟩ := hx3
  have h5 := fun (a1 t1 p1 u1 : List AC) => s_5whyNot (E := E) (o0 := ol) (a0 := a1) (t0 := t1) (p0 := p1) (u0 := u1) (l0 := []) (z := z) (sa := sa) (ro := ro) (te := te) (fr := fr) (to := to) (un := un) (ga := ga) (pi := pi) (be := be) (bm := bm) (en := en) (sta := sta) (sv := sv) (ln := ln) (th := th) (hh := hh) 9 v c r hZ hv hc hr
  exact po_ok (w_whyNot_O (s_4whyNot 8 v c r hT hv hc hr)) (h5 _ _ _ _) (inv_mk hI) (e_reason h w hv hc hr)
set_option maxRecDepth 10000 in
theorem p_ifPassed (hex : E.ex = false) (hI : IV T K os sc tc tl_ ph pc z ro te be sv ln nv nc nr ne a b q) (y x : Int32) : PO E M_L_ifPassed M_X5_ifPassed [.ref 4096, .int y, .int x, .ref 20480] [.ref 16384, .int y, .int x] ol (ar T K os sc) (te_ tc tp tl_ tn trd tv tdg tf tla) (pl pg ph pc pm) (mo z sa ro te fr to un ga pi be bm en sta sv ln th hh) ov := by
  obtain ⟨h, w, hS, hos, ha, hsc, hb, hsv, htl, hln, hq, hcd, h4, hbe⟩ := id hI
  have hT := TI_RT h w
  have hZ := w.zi
  by_cases hm1 : x = -1
  · subst hm1
    by_cases c1 : wi y (nI 1) (nI 500) = 0
    · have h5 := fun (a1 t1 p1 u1 : List AC) => s_5ifPassedC (E := E) (o0 := ol) (a0 := a1) (t0 := t1) (p0 := p1) (u0 := u1) (l0 := []) (z := z) (sa := sa) (ro := ro) (te := te) (fr := fr) (to := to) (un := un) (ga := ga) (pi := pi) (be := be) (bm := bm) (en := en) (sta := sta) (sv := sv) (ln := ln) (th := th) (hh := hh) 7 y hZ c1
      exact po_thr (k := nI 2) (by decide) (w_ifPassed_A (s_4ifPassedC 5 y hT c1 hex)) (h5 _ _ _ _) (inv_mk hI)
    obtain ⟨n, l1, m1, rfl⟩ := wi_num (by omega) (by omega) c1
    have h5 := fun (a1 t1 p1 u1 : List AC) => s_5ifPassedE (E := E) (o0 := ol) (a0 := a1) (t0 := t1) (p0 := p1) (u0 := u1) (l0 := []) (z := z) (sa := sa) (ro := ro) (te := te) (fr := fr) (to := to) (un := un) (ga := ga) (pi := pi) (be := be) (bm := bm) (en := en) (sta := sta) (sv := sv) (ln := ln) (th := th) (hh := hh) 7 n hZ l1 m1
    exact po_ok (w_ifPassed_O (s_4ifPassedE 5 (nI n) hT c1)) (h5 _ _ _ _) (inv_mk (hI.tab ((sIn h w (show n < 10000 by omega) nc (Nat.le_refl _)).1.rt h w.nv.2 w.nc.2))) (e_passed h w (by omega))
  by_cases hx1 : ∃ q9 : Nat, q9 < nc ∧ x = nI q9
  rotate_left
  · have h5 := fun (a1 t1 p1 u1 : List AC) => s_5ifPassedA (E := E) (o0 := ol) (a0 := a1) (t0 := t1) (p0 := p1) (u0 := u1) (l0 := []) (z := z) (sa := sa) (ro := ro) (te := te) (fr := fr) (to := to) (un := un) (ga := ga) (pi := pi) (be := be) (bm := bm) (en := en) (sta := sta) (sv := sv) (ln := ln) (th := th) (hh := hh) 7 y x hZ hx1 hm1
    exact po_thr (k := nI 1) (by decide) (w_ifPassed_X (s_4ifPassedA 5 y x hT hx1 hm1 hex)) (h5 _ _ _ _) (inv_mk hI)
  obtain ⟨c, hc, rfl⟩ := hx1
  by_cases c2 : wi y (nI 1) (nI 500) = 0
  · have h5 := fun (a1 t1 p1 u1 : List AC) => s_5ifPassedB (E := E) (o0 := ol) (a0 := a1) (t0 := t1) (p0 := p1) (u0 := u1) (l0 := []) (z := z) (sa := sa) (ro := ro) (te := te) (fr := fr) (to := to) (un := un) (ga := ga) (pi := pi) (be := be) (bm := bm) (en := en) (sta := sta) (sv := sv) (ln := ln) (th := th) (hh := hh) 7 y c hZ hc c2
    exact po_thr (k := nI 2) (by decide) (w_ifPassed_A (s_4ifPassedB 5 y c hT hc c2 hex)) (h5 _ _ _ _) (inv_mk hI)
  obtain ⟨n, l2, m2, rfl⟩ := wi_num (by omega) (by omega) c2
  have h5 := fun (a1 t1 p1 u1 : List AC) => s_5ifPassedD (E := E) (o0 := ol) (a0 := a1) (t0 := t1) (p0 := p1) (u0 := u1) (l0 := []) (z := z) (sa := sa) (ro := ro) (te := te) (fr := fr) (to := to) (un := un) (ga := ga) (pi := pi) (be := be) (bm := bm) (en := en) (sta := sta) (sv := sv) (ln := ln) (th := th) (hh := hh) 7 n c hZ hc l2 m2
  exact po_ok (w_ifPassed_O (s_4ifPassedD 5 (nI n) c hT hc c2)) (h5 _ _ _ _) (inv_mk (hI.tab ((TRF_sOn h w hc (nI n)).rt h w.nv.2 w.nc.2))) (e_passedOn h w hc (by omega))
set_option maxRecDepth 10000 in
theorem p_quickest (hex : E.ex = false) (hI : IV T K os sc tc tl_ ph pc z ro te be sv ln nv nc nr ne a b q) (x : Int32) : PO E M_L_quickest M_X5_quickest [.ref 4096, .int x, .ref 20480] [.ref 16384, .int x] ol (ar T K os sc) (te_ tc tp tl_ tn trd tv tdg tf tla) (pl pg ph pc pm) (mo z sa ro te fr to un ga pi be bm en sta sv ln th hh) ov := by
  obtain ⟨h, w, hS, hos, ha, hsc, hb, hsv, htl, hln, hq, hcd, h4, hbe⟩ := id hI
  have hT := TI_RT h w
  have hZ := w.zi
  by_cases hx1 : ∃ q9 : Nat, q9 < nv ∧ x = nI q9
  rotate_left
  · have h5 := fun (a1 t1 p1 u1 : List AC) => s_5quickestA (E := E) (o0 := ol) (a0 := a1) (t0 := t1) (p0 := p1) (u0 := u1) (l0 := []) (z := z) (sa := sa) (ro := ro) (te := te) (fr := fr) (to := to) (un := un) (ga := ga) (pi := pi) (be := be) (bm := bm) (en := en) (sta := sta) (sv := sv) (ln := ln) (th := th) (hh := hh) 9 x hZ hx1
    exact po_thr (k := nI 1) (by decide) (w_quickest_X (s_4quickestA 7 x hT hx1 hex)) (h5 _ _ _ _) (inv_mk hI)
  obtain ⟨v, hv, rfl⟩ := hx1
  have h12 := w.nv.2
  have h5 := fun (a1 t1 p1 u1 : List AC) => s_5quickest (E := E) (o0 := ol) (a0 := a1) (t0 := t1) (p0 := p1) (u0 := u1) (l0 := []) (z := z) (sa := sa) (ro := ro) (te := te) (fr := fr) (to := to) (un := un) (ga := ga) (pi := pi) (be := be) (bm := bm) (en := en) (sta := sta) (sv := sv) (ln := ln) (th := th) (hh := hh) 9 v hZ hv
  exact po_ok (w_quickest_O (s_4quickest 7 v hT hv)) (h5 _ _ _ _) (inv_mk hI) ((e_quick h (by omega) nr w.nr.2).1)
set_option maxRecDepth 10000 in
theorem p_bestLoad (hex : E.ex = false) (hI : IV T K os sc tc tl_ ph pc z ro te be sv ln nv nc nr ne a b q) (x y : Int32) : PO E M_L_bestLoad M_X5_bestLoad [.ref 4096, .int x, .int y, .ref 20480] [.ref 16384, .int x, .int y] ol (ar T K os sc) (te_ tc tp tl_ tn trd tv tdg tf tla) (pl pg ph pc pm) (mo z sa ro te fr to un ga pi be bm en sta sv ln th hh) ov := by
  obtain ⟨h, w, hS, hos, ha, hsc, hb, hsv, htl, hln, hq, hcd, h4, hbe⟩ := id hI
  have hT := TI_RT h w
  have hZ := w.zi
  by_cases c1 : wi x (nI 1) (nI 100) = 0
  · have h5 := fun (a1 t1 p1 u1 : List AC) => s_5bestLoadA (E := E) (o0 := ol) (a0 := a1) (t0 := t1) (p0 := p1) (u0 := u1) (l0 := []) (z := z) (sa := sa) (ro := ro) (te := te) (fr := fr) (to := to) (un := un) (ga := ga) (pi := pi) (be := be) (bm := bm) (en := en) (sta := sta) (sv := sv) (ln := ln) (th := th) (hh := hh) 6 x y hZ c1
    exact po_thr (k := nI 1) (by decide) (w_bestLoad_A (s_4bestLoadA 3 x y hT c1 hex)) (h5 _ _ _ _) (inv_mk hI)
  obtain ⟨m, l1, m1, rfl⟩ := wi_num (by omega) (by omega) c1
  by_cases c2 : wi y (nI 0) (nI 4) = 0
  · have h5 := fun (a1 t1 p1 u1 : List AC) => s_5bestLoadB (E := E) (o0 := ol) (a0 := a1) (t0 := t1) (p0 := p1) (u0 := u1) (l0 := []) (z := z) (sa := sa) (ro := ro) (te := te) (fr := fr) (to := to) (un := un) (ga := ga) (pi := pi) (be := be) (bm := bm) (en := en) (sta := sta) (sv := sv) (ln := ln) (th := th) (hh := hh) 6 m y hZ l1 m1 c2
    exact po_thr (k := nI 1) (by decide) (w_bestLoad_A (s_4bestLoadB 3 (nI m) y hT c1 c2 hex)) (h5 _ _ _ _) (inv_mk hI)
  obtain ⟨n, l2, m2, rfl⟩ := wi_num (by omega) (by omega) c2
  have h5 := fun (a1 t1 p1 u1 : List AC) => s_5bestLoad (E := E) (o0 := ol) (a0 := a1) (t0 := t1) (p0 := p1) (u0 := u1) (l0 := []) (z := z) (sa := sa) (ro := ro) (te := te) (fr := fr) (to := to) (un := un) (ga := ga) (pi := pi) (be := be) (bm := bm) (en := en) (sta := sta) (sv := sv) (ln := ln) (th := th) (hh := hh) 6 m n hZ l1 m1 (by omega)
  obtain ⟨b1, b2, b3, b4⟩ := e_best (m := m) h w (by omega) ga pi be pg ph pc h4 hbe
  have hIV : IV (F_4bestLoad_T (nI m) nv nc T pg ph) K os sc tc tl_ (F_4bestLoad_ph (nI m) nv nc T pg ph) (F_4bestLoad_pc (nI m) nv nc T pg ph pc) z ro te (F_5bestLoad_be m nv nc z ga pi be) sv ln nv nc nr ne a b q := ⟨b1.rt h w.nv.2 w.nc.2, w, hS, hos, ha, hsc, hb, hsv, htl, hln, hq, hcd, b2, b3⟩
  refine po_ok (w_bestLoad_O (s_4bestLoad 3 (nI m) n hT c1 (by omega))) (h5 _ _ _ _) (inv_mk hIV) ?_
  show F_2answer n (F_2make_pc (nI m) nv nc T pg ph pc) (F_2make_pm (nI m) nv nc T pg ph pc) = F_5bestNow n (F_5layBest_be m nv nc z ga pi be) (F_5layBest_bm m nv nc z ga pi be)
  unfold F_2answer F_5bestNow
  by_cases q0 : n = 0
  · rw [if_pos q0, if_pos q0]
    exact b4
  · rw [if_neg q0, if_neg q0]
    exact b3 (n - 1) (by omega)
end PO3
