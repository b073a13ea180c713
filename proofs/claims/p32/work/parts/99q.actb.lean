/-! ACTS: bars -/
section ACTB
variable {E : AE} {o0 u0 l0 : List AC} {pg ph pc : Nat → Int32} {pm : Int32} {T K : Nat → Nat → Int32} {os sc : Int32} {tc tp : Nat → Int32} {tl_ tn trd tv tdg tf tla : Int32} {V S N B R A O st C z : Nat → Int32} {nv nc nr ne t b : Nat}
theorem lz_B {B' z' : Nat → Int32} (q : LZ V S N B R A O st C z nv nc nr ne) (lx : LX z nv) (hb : ∀ u k, u < 4 → k < 8 → B' (8 * u + k) = z' (423 + 3 * (40 * u + k) + 2)) (fr : ∀ i, (∀ m, i ≠ 423 + 3 * m + 2) → z' i = z i) (hp0 : ∀ u k, u < 12 → k < 40 → 0 ≤ z' (423 + 3 * (40 * u + k) + 2)) : LZ V S N B' R A O st C z' nv nc nr ne ∧ LX z' nv ∧ z' 3 = z 3 := by
  obtain ⟨⟨q1, q2, q3, q4, q5, q6, q7, q8, q9⟩, r1, r2, r3, r4, r5, r6, r7⟩ := q
  have el : ∀ v, v < nv → lv z' v = lv z v := fun v hv => lv_of (fr _ (fun m => by omega))
  refine ⟨⟨⟨fun k hk => ?_, fun v u hv hu h5 => ?_, fun v hv => ?_, fun v k hv hk => ?_, fun v k hv hk => ?_, fun c u hc hu => ?_, fun v hv => ?_, q8, q9⟩, fun k hk => ?_, hb, fun r u hr hu => ?_, fun e u he hu => ?_, r5, r6, fun v hv => ?_⟩, ⟨fun v k hv h1 h2 => ?_, hp0⟩, fr _ (fun m => by omega)⟩
  · rw [fr _ (fun m => by omega)]; exact q1 k hk
  · rw [fr _ (fun m => by omega)]; exact q2 v u hv hu h5
  · rw [fr _ (fun m => by omega)]; exact q3 v hv
  · rw [fr _ (fun m => by omega)]; exact q4 v k hv hk
  · rw [fr _ (fun m => by omega)]; exact q5 v k hv hk
  · rw [fr _ (fun m => by omega)]; exact q6 c u hc hu
  · rw [el v hv]; exact q7 v hv
  · rw [fr _ (fun m => by omega)]; exact r1 k hk
  · rw [fr _ (fun m => by omega)]; exact r3 r u hr hu
  · rw [fr _ (fun m => by omega)]; exact r4 e u he hu
  · rw [el v hv]; exact r7 v hv
  · rw [el v hv] at h1
    rw [fr _ (fun m => by omega)]
    exact lx.1 v k hv h1 h2
/-- bars in the cells and in the law's array -/
def BR (z0 l z : Nat → Int32) : Prop := (∀ u k, u < 4 → k < 8 → l (8 * u + k) = z (423 + 3 * (40 * u + k) + 2)) ∧ (∀ i, (∀ m, i ≠ 423 + 3 * m + 2) → z i = z0 i) ∧ ∀ u k, u < 12 → k < 40 → 0 ≤ z (423 + 3 * (40 * u + k) + 2)
theorem br_in {z0 te fr to un l : Nat → Int32} {v x q j : Nat} {A : Nat → Nat} (hv : v < 4) (hA : A j = ba x (lL V v) j) (hy : F_5read_un q te fr to un j = nI (bu x j)) (h : BR z0 l z) : ∀ i : Nat, A j + i ≤ 8 → BR z0 (L_Lbars_158 v x V j l i) (L_5bar_102 v q A te fr to un j z i)
  | 0, _ => h
  | i + 1, hi => by
    obtain ⟨h1, h2, h3⟩ := br_in hv hA hy h i (by omega)
    have hbu := bu_r (x := x) (j := j)
    show BR z0 (B_Lbars_158 v x V j i (L_Lbars_158 v x V j l i)) (B_5bar_102 v q A te fr to un j i (L_5bar_102 v q A te fr to un j z i))
    unfold B_Lbars_158 B_5bar_102
    rw [hy, hA]
    rw [hA] at hi
    refine ⟨fun u k hu hk => ?_, fun i' hi' => ?_, fun u k hu hk => ?_⟩
    · by_cases e : u = v ∧ k = ba x (lL V v) j + i
      · obtain ⟨rfl, rfl⟩ := e
        rw [upd_eq, upd_eq]
      · rw [upd_ne (by omega), upd_ne (by omega)]
        exact h1 u k hu hk
    · rw [upd_ne (hi' _)]
      exact h2 i' hi'
    · by_cases e : u = v ∧ k = ba x (lL V v) j + i
      · obtain ⟨rfl, rfl⟩ := e
        rw [upd_eq]
        exact Int32.not_lt.mp (nI_neg (by omega))
      · rw [upd_ne (by omega)]
        exact h3 u k hu hk
theorem br_out {te fr to un : Nat → Int32} {v x y q : Nat} (hv : v < 4) (h0 : 0 < lL V v) (h8 : lL V v ≤ 8) (hy : ∀ k, k < 3 → F_5read_un q te fr to un k = nI (bu x k)) (h : BR z B z) : ∀ j : Nat, j ≤ 3 → BR z (L_Lbars_19 v x y tc V B j).2.2 (L_5bar_87 v q (ba x (lL V v)) (bb x y (lL V v)) z te fr to un j)
  | 0, _ => h
  | j + 1, hj => by
    have ih := br_out (y := y) hv h0 h8 hy h j (by omega)
    have hb := bb_lt (x := x) (y := y) (j := j) h0
    have hab := ba_le_bb (x := x) (y := y) (n := lL V v) (j := j)
    rw [l19_lb]
    exact br_in hv rfl (hy j (by omega)) ih (bb x y (lL V v) j + 1 - ba x (lL V v) j) (by omega)
theorem b195 {v x y : Nat} {z' : Nat → Int32} (hv : v < 4) (h : ∀ u k, u < 4 → k < 8 → (L_Lbars_19 v x y tc V B 3).2.2 (8 * u + k) = z' (423 + 3 * (40 * u + k) + 2)) (hp0 : ∀ u k, u < 12 → k < 40 → 0 ≤ z' (423 + 3 * (40 * u + k) + 2)) : ∀ j : Nat, j ≤ 8 → L_5barred_4 v z' j = L_Lbars_195 v x y tc V B j
  | 0, _ => rfl
  | j + 1, hj => by
    have ih := b195 hv h hp0 j (by omega)
    show B_5barred_4 v z' j (L_5barred_4 v z' j) = B_Lbars_195 v x y tc V B j (L_Lbars_195 v x y tc V B j)
    unfold B_5barred_4 B_Lbars_195
    rw [ih, h v j hv (by omega)]
    have h0 := hp0 v j (by omega) (by omega)
    by_cases e : z' (423 + 3 * (40 * v + j) + 2) = 0
    · rw [if_pos e, if_pos (by rw [e]; exact Int32.le_refl _)]
    · rw [if_neg e, if_neg (fun g => e (Int32.le_antisymm g h0))]
theorem act_B {d x y : Nat} (s : SS T os sc V S N B R A O st C z nv nc nr ne t b) (hx : x < 2147483648) (hy : y < 2147483648) (hn0 : 0 < nv) (hn1 : 0 < nc) (hn2 : 0 < nr) : ACTR E d 17 x y o0 u0 l0 pg ph pc pm T K os sc tc tp tl_ tn trd tv tdg tf tla V S N B R A O st C nv nc nr (t + 200) := by
  obtain ⟨h, wz, q, lx, h3, ⟨a, ha, hos⟩, hsc, hb, hb1⟩ := id s
  have h4 := q.1.n4
  have h2 := q.1.n2
  have hr2 := q.r2
  have h12 := q.e12
  have hcc := q.cc
  have hc0 : C 0 = nI nv := (hcc 0 (by omega)).trans wz.nv.1
  have hc1 : C 1 = nI nc := (hcc 1 (by omega)).trans wz.nc.1
  have hc2 : C 2 = nI nr := (hcc 2 (by omega)).trans wz.nr.1
  have hc5 : C 5 = nI ne := (hcc 5 (by omega)).trans wz.ne.1
  have hv : x / 2 % nv < nv := Nat.mod_lt _ hn0
  have hk : y / 2 % nc < nc := Nat.mod_lt _ hn1
  have he : y / 2 ^ 3 / 2 % nr < nr := Nat.mod_lt _ hn2
  have hl1 := q.l1 _ hv
  have eL := lL_eq q.1 (v := x / 2 % nv) (by omega)
  have hL := q.1.hL wz.lv _ hv
  have hlt : lt T (x / 2 % nv) = lL V (x / 2 % nv) := lt_lL h wz q.1 hv
  obtain ⟨b', p1, p2, p3, p4⟩ := sv_ok ha hb hos hsc
  have l0' : 0 < lL V (x / 2 % nv) := by omega
  have hA : ∀ k, ba (x / 2 ^ 2) (lL V (x / 2 % nv)) k < 8 := fun k => Nat.lt_of_lt_of_le (ba_lt l0') hL.2
  have hB : ∀ k, bb (x / 2 ^ 2) (y / 2 ^ 2) (lL V (x / 2 % nv)) k < 8 := fun k => Nat.lt_of_lt_of_le (bb_lt l0') hL.2
  have hPT := l19_tc (v := x / 2 % nv) (x := x / 2 ^ 2) (y := y / 2 ^ 2) (vo := V) (lb := B) (tc := tc) 3
  have hq9 := bq_le (x / 2 ^ 2) (y / 2 ^ 2) (lL V (x / 2 % nv)) 3
  obtain ⟨fr', to', un', hW, hrow⟩ := bars_rd (fr := fun _ => 0) (to := fun _ => 0) (un := fun _ => 0) l0' hL.2 hPT
  have hcd : ∀ k, k < bq (x / 2 ^ 2) (y / 2 ^ 2) (lL V (x / 2 % nv)) 3 → ∃ c : Nat, c < 127 ∧ (L_Lbars_19 (x / 2 % nv) (x / 2 ^ 2) (y / 2 ^ 2) tc V B 3).1 k = nI c := fun k hk => by
    have z0 : bq (x / 2 ^ 2) (y / 2 ^ 2) (lL V (x / 2 % nv)) 0 = 0 := rfl
    by_cases e1 : k < bq (x / 2 ^ 2) (y / 2 ^ 2) (lL V (x / 2 % nv)) 1
    · exact PT_asc (hPT 0 (by omega)) (hA 0) (hB 0) (by omega) e1
    by_cases e2 : k < bq (x / 2 ^ 2) (y / 2 ^ 2) (lL V (x / 2 % nv)) 2
    · exact PT_asc (hPT 1 (by omega)) (hA 1) (hB 1) (by omega) e2
    · exact PT_asc (hPT 2 (by omega)) (hA 2) (hB 2) (by omega) hk
  have hBR : BR z B z := ⟨fun u k hu hk => q.lb u k hu hk, fun _ _ => rfl, lx.2⟩
  have hal := br_out (te := (L_Lbars_19 (x / 2 % nv) (x / 2 ^ 2) (y / 2 ^ 2) tc V B 3).1) (fr := fun _ => 0) (to := fun _ => 0) (un := fun _ => 0) (q := bq (x / 2 ^ 2) (y / 2 ^ 2) (lL V (x / 2 % nv)) 3) (x := x / 2 ^ 2) (y := y / 2 ^ 2) (tc := tc) (show x / 2 % nv < 4 by omega) l0' hL.2 (fun k hk => by unfold F_5read_un; rw [hW]; exact (hrow k hk).2.2) hBR 3 (by omega)
  have hlb := l19_tc (v := x / 2 % nv) (x := x / 2 ^ 2) (y := y / 2 ^ 2) (vo := V) (lb := B) (tc := tc) 3
  have hs := s_LactB (E := E) (o0 := o0) (u0 := u0) (l0 := l0) (pg := pg) (ph := ph) (pc := pc) (pm := pm) (tc := tc) (tp := tp) (tl_ := tl_) (tn := tn) (trd := trd) (tv := tv) (tdg := tdg) (tf := tf) (tla := tla) (K := K) (T := T) (os := os) (sc := sc) (vo := V) (ln := N) (ls := S) (cr := R) (lb := B) (lo := O) (ca := A) (st := st) (cc := C) d 17 x y (TI_RT h wz) hc0 h4 hc1 h2 hc2 hr2 hc5 h12 (q.1.hL wz.lv) hx hy hos ha hsc hb hn0 hn1 hn2 (by omega) rfl rfl rfl hv hk he rfl hL.1 l0' hL.2
  unfold F_LactB_T F_LactB_tc F_LactB_tp F_LactB_tn F_LactB_trd F_LactB_tv F_LactB_tdg F_LactB_tf F_LactB_tla F_LactB_lb F_Lbars_T F_Lbars_tc F_Lbars_tp F_Lbars_tn F_Lbars_trd F_Lbars_tv F_Lbars_tdg F_Lbars_tf F_Lbars_tla F_Lbars_lb at hs
  generalize hte : (L_Lbars_19 (x / 2 % nv) (x / 2 ^ 2) (y / 2 ^ 2) tc V B 3).1 = te at *
  generalize hqq : bq (x / 2 ^ 2) (y / 2 ^ 2) (lL V (x / 2 % nv)) 3 = qq at *
  have hc := bar_cases (q := qq) (te := te) (tc := te) (by omega) (fun k hk => ⟨rfl, hcd k hk⟩) (fun _ => 0) (fun _ => 0) (fun _ => 0) tp tf tla
  have r1 : F_5read qq te (fun _ => 0) (fun _ => 0) (fun _ => 0) = nI qq := by unfold F_5read; rw [hW]
  have r2 : F_5read_sta qq te (fun _ => 0) (fun _ => 0) (fun _ => 0) = nI 10 := by unfold F_5read_sta; rw [hW]
  have r3 : F_5read_en qq te (fun _ => 0) (fun _ => 0) (fun _ => 0) = nI 2 := by unfold F_5read_en; rw [hW]
  have r4 : F_5read_fr qq te (fun _ => 0) (fun _ => 0) (fun _ => 0) = fr' := by unfold F_5read_fr; rw [hW]
  have r5 : F_5read_to qq te (fun _ => 0) (fun _ => 0) (fun _ => 0) = to' := by unfold F_5read_to; rw [hW]
  have r6 : F_5read_un qq te (fun _ => 0) (fun _ => 0) (fun _ => 0) = un' := by unfold F_5read_un; rw [hW]
  rw [r1, r2, r3, r4, r5, r6] at hc
  rcases hc with hc | hc | ⟨hnl, -, hcm, -, n, hn10, en, htn, hRow⟩
  · exact absurd hc.2 (Int32.not_lt.mpr (Int32.le_refl _))
  · exact absurd rfl hc.2.2.2
  have en2 : n = 2 := ((nI_eq (a := 2) (b := n) (by omega) (by omega)).mp en).symm
  subst en2
  have tpA : ∀ k, k < 3 → F_1read_tp qq te tp tf tla (k * 3 + 0) = nI (ba (x / 2 ^ 2) (lL V (x / 2 % nv)) k) := fun k hk => by
    rw [(hRow k (by omega)).1, (hrow k hk).1]
  have tpB : ∀ k, k < 3 → F_1read_tp qq te tp tf tla (k * 3 + 1) = nI (bb (x / 2 ^ 2) (y / 2 ^ 2) (lL V (x / 2 % nv)) k) := fun k hk => by
    rw [(hRow k (by omega)).2.1, (hrow k hk).1, (hrow k hk).2.1]
    have hab := ba_le_bb (x := x / 2 ^ 2) (y := y / 2 ^ 2) (n := lL V (x / 2 % nv)) (j := k)
    by_cases e : bb (x / 2 ^ 2) (y / 2 ^ 2) (lL V (x / 2 % nv)) k ≤ ba (x / 2 ^ 2) (lL V (x / 2 % nv)) k
    · rw [if_pos e, if_pos rfl, show ba (x / 2 ^ 2) (lL V (x / 2 % nv)) k = bb (x / 2 ^ 2) (y / 2 ^ 2) (lL V (x / 2 % nv)) k by omega]
    · rw [if_neg e, if_neg (nI_m1 (by have := hB k; omega))]
  have hAB : ∀ k, k < 3 → ba (x / 2 ^ 2) (lL V (x / 2 % nv)) k ≤ bb (x / 2 ^ 2) (y / 2 ^ 2) (lL V (x / 2 % nv)) k ∧ bb (x / 2 ^ 2) (y / 2 ^ 2) (lL V (x / 2 % nv)) k < 40 := fun k _ => ⟨ba_le_bb, by have := hB k; omega⟩
  have hgr : L_1greatestLeaf_4 (F_1read_tp qq te tp tf tla) 3 < nI (lt T (x / 2 % nv)) := (great_lt (B := bb (x / 2 ^ 2) (y / 2 ^ 2) (lL V (x / 2 % nv))) (m := lt T (x / 2 % nv)) (by omega) 3 (fun k hk => ⟨tpB k hk, by have := hB k; omega⟩)).mpr (fun k hk => by rw [hlt]; exact bb_lt l0')
  obtain ⟨m1, m2⟩ := mut_bar (q := qq) (n := 2) (A := ba (x / 2 ^ 2) (lL V (x / 2 % nv))) (B := bb (x / 2 ^ 2) (y / 2 ^ 2) (lL V (x / 2 % nv))) (te := te) (fr := fun _ => 0) (to := fun _ => 0) (un := fun _ => 0) (tc := te) (tp := tp) (tf := tf) (tla := tla) h wz hv (fun k hk => hAB k (by omega)) (fun k hk => by rw [r6]; exact (hRow k (by omega)).2.2.1) 3 (by omega)
  obtain ⟨n1, n2, n3⟩ := lz_B q lx hal.1 hal.2.1 hal.2.2
  have hlt2 : lt (L_4bar_80 (x / 2 % nv) qq (ba (x / 2 ^ 2) (lL V (x / 2 % nv))) (bb (x / 2 ^ 2) (y / 2 ^ 2) (lL V (x / 2 % nv))) T te tp tf tla 3) (x / 2 % nv) = lL V (x / 2 % nv) := lt_lL m1 m2 n1.1 hv
  have hbar : F_4bar (x / 2 % nv) qq 3 (ba (x / 2 ^ 2) (lL V (x / 2 % nv))) (bb (x / 2 ^ 2) (y / 2 ^ 2) (lL V (x / 2 % nv))) T te tp tf tla = L_Lbars_195 (x / 2 % nv) (x / 2 ^ 2) (y / 2 ^ 2) tc V B (lL V (x / 2 % nv)) := by
    unfold F_4bar
    rw [hlt2, e_barred m1 (by omega) _ (by omega)]
    exact b195 (by omega) hal.1 hal.2.2 _ hL.2
  exact ⟨_, _, _, _, _, _, _, _, _, _, _, _, _, _, _, _, _, _, _, _, _, _, _, _, _, _, _, t, b', hs (fun k hk => by
    obtain ⟨c, hc, ec⟩ := hcd k hk
    rw [ec]
    have : (nI c).toNatClampNeg = c := nI_clamp (by omega)
    exact ⟨by unfold isN; rw [this], by rw [this]; exact hc⟩) hnl hcm htn hgr tpA tpB hAB hbar, ⟨m1, m2, n1, n2, n3.trans h3, p1, p2, p3, fun _ => p4⟩, Nat.le_refl _, Nat.le_refl _, Nat.le_refl _, show t ≤ t + 200 by omega⟩
end ACTB
