section PO4
variable {E : AE} {T K : Nat → Nat → Int32} {os sc : Int32} {tc tp : Nat → Int32} {tl_ tn trd tv tdg tf tla : Int32} {pg ph pc : Nat → Int32} {pm : Int32} {z sa ro te fr to un ga pi be : Nat → Int32} {bm en sta sv ln th : Int32} {hh : Int64} {ov : Nat → Int64} {nv nc nr ne a b q : Nat} {ol : List AC}
/-- both sides of one call without exceptions: the same answer -/
def PD (E : AE) (M4 M5 : AM) (v : Value) (ol A B C D : List AC) (ov : Nat → Int64) : Prop := ∃ (a1 t1 p1 : List AC) (h2 : AH) (th : Int32), CT E M4 12 [.ref 4096] (hp ol A B C D (ou ov) []) (.inl (some v)) (hp ol a1 t1 p1 D (ou ov) []) 0 0 ∧ CT E M5 12 [.ref 16384] (hp ol a1 t1 p1 D (ou ov) []) (.inl (some v)) h2 0 0 ∧ INV ol th ov h2
set_option maxRecDepth 10000 in
theorem p_clearBuffer (hI : IV T K os sc tc tl_ ph pc z ro te be sv ln nv nc nr ne a b q) : ∃ x : Int32, PD E M_X4_clearBuffer M_X5_clearBuffer (.int x) ol (ar T K os sc) (te_ tc tp tl_ tn trd tv tdg tf tla) (pl pg ph pc pm) (mo z sa ro te fr to un ga pi be bm en sta sv ln th hh) ov := by
  obtain ⟨h, w, hS, hos, ha, hsc, hb, hsv, htl, hln, hq, hcd, h4, hbe⟩ := id hI
  have hT := TI_RT h w
  have hZ := w.zi
  have h5 := fun (a1 t1 p1 u1 : List AC) => s_5clearBuffer (E := E) (o0 := ol) (a0 := a1) (t0 := t1) (p0 := p1) (u0 := u1) (l0 := []) (z := z) (sa := sa) (ro := ro) (te := te) (fr := fr) (to := to) (un := un) (ga := ga) (pi := pi) (be := be) (bm := bm) (en := en) (sta := sta) (sv := sv) (ln := ln) (th := th) (hh := hh) 12 
  have := h5 (ar T K os sc) (te_ tc tp F_4clearBuffer_tl_ tn trd tv tdg tf tla) (pl pg ph pc pm) (ou ov)
  rw [show F_5clearBuffer ln = tl_ by rw [htl]; exact hln] at this
  exact ⟨tl_, _, _, _, _, nI 0, s_4clearBuffer 11, this, inv_mk hI.q0⟩
set_option maxRecDepth 10000 in
theorem p_firstError (hI : IV T K os sc tc tl_ ph pc z ro te be sv ln nv nc nr ne a b q) : ∃ x : Int32, PD E M_X4_firstError M_X5_firstError (.int x) ol (ar T K os sc) (te_ tc tp tl_ tn trd tv tdg tf tla) (pl pg ph pc pm) (mo z sa ro te fr to un ga pi be bm en sta sv ln th hh) ov := by
  obtain ⟨h, w, hS, hos, ha, hsc, hb, hsv, htl, hln, hq, hcd, h4, hbe⟩ := id hI
  have hT := TI_RT h w
  have hZ := w.zi
  have h5 := fun (a1 t1 p1 u1 : List AC) => s_5firstError (E := E) (o0 := ol) (a0 := a1) (t0 := t1) (p0 := p1) (u0 := u1) (l0 := []) (z := z) (sa := sa) (ro := ro) (te := te) (fr := fr) (to := to) (un := un) (ga := ga) (pi := pi) (be := be) (bm := bm) (en := en) (sta := sta) (sv := sv) (ln := ln) (th := th) (hh := hh) 8 hln hq
  obtain ⟨e1, -⟩ := e_read hq hcd fr to un tp tf tla
  have := h5 (ar T K os sc) (te_ tc (F_4firstError_tp q tc tp tf tla) tl_ (F_4firstError_tn q tc tp tf tla) (F_4firstError_trd q tc tp tf tla) (F_4firstError_tv q tc tp tf tla) (F_4firstError_tdg q tc tp tf tla) (F_4firstError_tf q tc tp tf tla) (F_4firstError_tla q tc tp tf tla)) (pl pg ph pc pm) (ou ov)
  rw [show F_5firstError q te fr to un = F_4firstError q tc tp tf tla from e1] at this
  exact ⟨F_4firstError q tc tp tf tla, _, _, _, _, nI 0, s_4firstError 7 htl hq (hcd_N hcd), this, inv_mk hI⟩
set_option maxRecDepth 10000 in
theorem p_doneIn (hI : IV T K os sc tc tl_ ph pc z ro te be sv ln nv nc nr ne a b q) : ∃ x : Int32, PD E M_X4_doneIn M_X5_doneIn (.int x) ol (ar T K os sc) (te_ tc tp tl_ tn trd tv tdg tf tla) (pl pg ph pc pm) (mo z sa ro te fr to un ga pi be bm en sta sv ln th hh) ov := by
  obtain ⟨h, w, hS, hos, ha, hsc, hb, hsv, htl, hln, hq, hcd, h4, hbe⟩ := id hI
  have hT := TI_RT h w
  have hZ := w.zi
  have h5 := fun (a1 t1 p1 u1 : List AC) => s_5doneIn (E := E) (o0 := ol) (a0 := a1) (t0 := t1) (p0 := p1) (u0 := u1) (l0 := []) (z := z) (sa := sa) (ro := ro) (te := te) (fr := fr) (to := to) (un := un) (ga := ga) (pi := pi) (be := be) (bm := bm) (en := en) (sta := sta) (sv := sv) (ln := ln) (th := th) (hh := hh) 7 hZ
  have := h5 (ar (F_4doneIn_T nc T) K os sc) (te_ tc tp tl_ tn trd tv tdg tf tla) (pl pg ph pc pm) (ou ov)
  rw [show F_5doneIn nv nc nr z sa = F_4doneIn nc T from (e_done h w sa).symm] at this
  exact ⟨F_4doneIn nc T, _, _, _, _, nI 0, s_4doneIn 8 hT, this, inv_mk (hI.tab ((TRF_done h w).rt h w.nv.2 w.nc.2))⟩
theorem nan5 (h : RT T z nv nc) (w : WZ z nv nc nr ne) (sv : Int32) : (¬ F_5counted 6 nv nc z sv = 0 → vf_n64 (FP.ddiv (FP.i2d (F_5counted 9 nv nc z sv)) (FP.i2d (F_5counted 6 nv nc z sv)))) ∧ SHd (F_5openNow nv nc z sv) := by
  obtain ⟨g1, g2⟩ := share_T (TI_RT h w)
  obtain ⟨a, b, h1, h2, h3, h4⟩ := sums_T (TI_RT h w) nv (Nat.le_refl _)
  have h12 := w.nv.2
  have e2 : F_5counted 6 nv nc z sv = L_0sumOverVolumes_4 2 T nv := (e_sum h w (by omega) nv (Nat.le_refl _)).symm
  have e9 : F_5counted 9 nv nc z sv = L_0sumOverVolumes_4 9 T nv := (e_sum h w (by omega) nv (Nat.le_refl _)).symm
  refine ⟨fun q => ?_, by rw [← e_share h w sv]; exact g1⟩
  rw [e2, e9]
  refine g2 ?_
  rw [e2, h4] at q
  rw [h4]
  exact lt0 (a := b) (by omega) (fun q0 => q ((eq0_nI (a := b) (by omega)).mpr q0))
set_option maxRecDepth 10000 in
theorem p_openShare (hI : IV T K os sc tc tl_ ph pc z ro te be sv ln nv nc nr ne a b q) : ∃ x : UInt64, SHd x ∧ PD E M_X4_openShare M_X5_openShare (.double x) ol (ar T K os sc) (te_ tc tp tl_ tn trd tv tdg tf tla) (pl pg ph pc pm) (mo z sa ro te fr to un ga pi be bm en sta sv ln th hh) ov := by
  obtain ⟨h, w, hS, hos, ha, hsc, hb, hsv, htl, hln, hq, hcd, h4, hbe⟩ := id hI
  have hT := TI_RT h w
  have hZ := w.zi
  obtain ⟨n1, n2⟩ := nan5 h w sv
  have h5 := fun (a1 t1 p1 u1 : List AC) => s_5openShare (E := E) (o0 := ol) (a0 := a1) (t0 := t1) (p0 := p1) (u0 := u1) (l0 := []) (z := z) (sa := sa) (ro := ro) (te := te) (fr := fr) (to := to) (un := un) (ga := ga) (pi := pi) (be := be) (bm := bm) (en := en) (sta := sta) (sv := sv) (ln := ln) (th := th) (hh := hh) 5 hZ n1
  have := h5 (ar T K os sc) (te_ tc tp tl_ tn trd tv tdg tf tla) (pl pg ph pc pm) (ou ov)
  rw [show F_5openShare nv nc z sv = F_0shareOfOpenLeaves nv T from (e_share h w sv).symm] at this
  exact ⟨F_0shareOfOpenLeaves nv T, (share_T hT).1, _, _, _, _, nI 0, s_4openShare 6 hT (share_T hT).2, this, inv_mk hI⟩
set_option maxRecDepth 10000 in
theorem p_digest (hI : IV T K os sc tc tl_ ph pc z ro te be sv ln nv nc nr ne a b q) : ∃ x : Int64, PD E M_X4_digest M_X5_digest (.long x) ol (ar T K os sc) (te_ tc tp tl_ tn trd tv tdg tf tla) (pl pg ph pc pm) (mo z sa ro te fr to un ga pi be bm en sta sv ln th hh) ov := by
  obtain ⟨h, w, hS, hos, ha, hsc, hb, hsv, htl, hln, hq, hcd, h4, hbe⟩ := id hI
  have hT := TI_RT h w
  have hZ := w.zi
  obtain ⟨n1, n2⟩ := nan5 h w sv
  have h5 := fun (a1 t1 p1 u1 : List AC) => s_5digest (E := E) (o0 := ol) (a0 := a1) (t0 := t1) (p0 := p1) (u0 := u1) (l0 := []) (z := z) (sa := sa) (ro := ro) (te := te) (fr := fr) (to := to) (un := un) (ga := ga) (pi := pi) (be := be) (bm := bm) (en := en) (sta := sta) (sv := sv) (ln := ln) (th := th) (hh := hh) 4 hZ n1 (SHd_self n2) hln hq
  obtain ⟨d1, d2, d3, d4, d5⟩ := e_digest h w (fun k hk => (hcd k hk).1) sc sa ga pi be pg ph pc h4 hbe
  have hIV : IV (F_4digest_T nv nc nr ne T sc pg ph) K os sc tc tl_ (F_4digest_ph nv nc nr ne T sc pg ph) (F_4digest_pc nv nc nr ne T sc pg ph pc) z ro te (F_5digest_be nv nc z ga pi be) sv ln nv nc nr ne a b q := ⟨d2.rt h w.nv.2 w.nc.2, w, hS, hos, ha, hsc, hb, hsv, htl, hln, hq, hcd, d3, d4⟩
  have := h5 (ar (F_4digest_T nv nc nr ne T sc pg ph) K os sc) (te_ tc tp tl_ tn trd tv tdg tf tla) (pl (F_4digest_pg nv nc nr ne T sc pg ph) (F_4digest_ph nv nc nr ne T sc pg ph) (F_4digest_pc nv nc nr ne T sc pg ph pc) (F_4digest_pm nv nc nr ne T sc pg ph pc)) (ou ov)
  rw [show F_5digest nv nc nr ne q z sa te ga pi be sv = F_4digest nv nc nr ne q T sc tc pg ph pc by rw [d1, hsc, hsv]] at this
  exact ⟨F_4digest nv nc nr ne q T sc tc pg ph pc, _, _, _, _, nI 0, s_4digest 4 hT htl hq, this, inv_mk hIV⟩
end PO4
