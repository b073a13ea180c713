/-! ACTS: faulty leaves, the year, settings -/
section ACTS3
variable {E : AE} {u0 l0 : List AC} {pg ph pc : Nat → Int32} {pm : Int32} {T K : Nat → Nat → Int32} {os sc : Int32} {tc tp : Nat → Int32} {tl_ tn trd tv tdg tf tla : Int32} {V S N B R A O st C z : Nat → Int32} {nv nc nr ne t b : Nat}
theorem lw_8 (lx : LX z nv) {v : Nat} (hv : v < nv) (how : Int32) (hh : ¬ nI 0 = how) : ∀ j : Nat, lv z v + j ≤ 8 → L_5leavesWith_5 v how z (lv z v + j) = L_5leavesWith_5 v how z (lv z v)
  | 0, _ => rfl
  | j + 1, hj => by
    show B_5leavesWith_5 v how z (lv z v + j) (L_5leavesWith_5 v how z (lv z v + j)) = _
    unfold B_5leavesWith_5
    rw [lx.1 v (lv z v + j) hv (by omega) (by omega), if_neg hh, i_a0]
    exact lw_8 lx hv how hh j (by omega)
theorem lw_L {v q : Nat} (hS : ∀ k, k < 8 → (upd S ((8 * v) + q) (nI (2))) (8 * v + k) = z (423 + 3 * (40 * v + k) + 0)) : ∀ j : Nat, j ≤ 8 → L_LactJ2_662 v q S j = L_5leavesWith_5 v (nI 2) z j
  | 0, _ => rfl
  | j + 1, hj => by
    show B_LactJ2_662 v q S j (L_LactJ2_662 v q S j) = B_5leavesWith_5 v (nI 2) z j (L_5leavesWith_5 v (nI 2) z j)
    unfold B_LactJ2_662 B_5leavesWith_5
    rw [hS j (by omega), lw_L hS j (by omega)]
theorem lz_J {v q : Nat} (w : WZ z nv nc nr ne) (hq : LZ V S N B R A O st C z nv nc nr ne) (lx : LX z nv) (hv : v < nv) (hql : q < lv z v) : LZ V (upd S ((8 * v) + q) (nI (2))) N B R A O st (upd C 6 ((C 6) + (nI (1)))) (zR v q z) nv nc nr ne ∧ LX (zR v q z) nv ∧ zR v q z 3 = z 3 := by
  have h8 := hq.1.l8 v hv
  have h4 := hq.1.n4
  obtain ⟨q0, r1, r2, r3, r4, r5, r6, r7⟩ := hq
  have fr : ∀ {i : Nat}, i ≠ 6 → i ≠ 423 + (3 * ((40 * v) + q)) → zR v q z i = z i := fun h1 h2 => by
    unfold zR
    rw [upd_ne h1, upd_ne h2]
  refine ⟨⟨(q0.updS (v := v) (k := q) (x := nI 2) (by omega) (by omega) rfl).updO (Or.inl (by omega)), fun k hk => ?_, fun u k hu hk => ?_, fun r u hr hu => ?_, fun e u he hu => ?_, r5, r6, fun u hu => ?_⟩, ⟨fun u k hu hk hk2 => ?_, fun u k hu hk => ?_⟩, fr (by omega) (by omega)⟩
  · by_cases e : k = 6
    · subst e
      unfold zR
      rw [upd_eq, upd_eq, r1 6 (by omega)]
    · rw [upd_ne e, fr e (by omega)]; exact r1 k hk
  · rw [fr (by omega) (by omega)]; exact r2 u k hu hk
  · rw [fr (by omega) (by omega)]; exact r3 r u hr hu
  · rw [fr (by omega) (by omega)]; exact r4 e u he hu
  · rw [lv_of (fr (by omega) (by omega))]; exact r7 u hu
  · rw [lv_of (fr (by omega) (by omega))] at hk
    have hne : ¬ (u = v ∧ k = q) := fun e => by
      obtain ⟨rfl, rfl⟩ := e
      omega
    have h40 := (w.lv v hv).2
    rw [fr (by omega) (by omega)]
    exact lx.1 u k hu hk hk2
  · rw [fr (by omega) (by omega)]
    exact lx.2 u k hu hk
theorem act_J {o0 : List AC} {d w x y : Nat} (s : SS T os sc V S N B R A O st C z nv nc nr ne t b) (hx : x < 2147483648) (hy : y < 2147483648) (hn0 : 0 < nv) (hn1 : 0 < nc) (hn2 : 0 < nr) (hw3 : 15 ≤ w) (hw8 : w < 17) : ACTR E d w x y o0 u0 l0 pg ph pc pm T K os sc tc tp tl_ tn trd tv tdg tf tla V S N B R A O st C nv nc nr (t + 200) := by
  obtain ⟨h, wz, q, lx, h3, ⟨a, ha, hos⟩, hsc, hb, hb1⟩ := id s
  have h4 := q.1.n4
  have h2 := q.1.n2
  have hr2 := q.r2
  have h12 := q.e12
  have hcc := q.cc
  have hc0 : C 0 = nI nv := (hcc 0 (by omega)).trans wz.nv.1
  have hc1 : C 1 = nI nc := (hcc 1 (by omega)).trans wz.nc.1
  have hc2 : C 2 = nI nr := (hcc 2 (by omega)).trans wz.nr.1
  have hc5 : C 5 = nI ne := (hcc 5 (by omega)).trans wz.ne.1
  have hv : x / 2 % nv < nv := Nat.mod_lt _ hn0
  have hk : y / 2 % nc < nc := Nat.mod_lt _ hn1
  have he : y / 2 ^ 3 / 2 % nr < nr := Nat.mod_lt _ hn2
  have hl1 := q.l1 _ hv
  have eL := lL_eq q.1 (v := x / 2 % nv) (by omega)
  have hL := q.1.hL wz.lv _ hv
  have hql : x / 2 ^ 4 / 2 % lL V (x / 2 % nv) < lL V (x / 2 % nv) := Nat.mod_lt _ (by omega)
  by_cases hj : S (8 * (x / 2 % nv) + x / 2 ^ 4 / 2 % lL V (x / 2 % nv)) = nI 1
  · generalize hqq : x / 2 ^ 4 / 2 % lL V (x / 2 % nv) = p at hj hql
    obtain ⟨m1, m2⟩ := mut_reject h wz hv (k := p) (by omega)
    obtain ⟨n1, n2, n3⟩ := lz_J (q := p) wz q lx hv (by omega)
    obtain ⟨b', p1, p2, p3, p4⟩ := sv_ok ha hb hos hsc
    have hlt : lt T (x / 2 % nv) = lL V (x / 2 % nv) := lt_lL h wz q.1 hv
    have hl2 : lt (F_0findFaulty_T (x / 2 % nv) p T) (x / 2 % nv) = lv (zR (x / 2 % nv) p z) (x / 2 % nv) := lt_eq m1 (by omega)
    have elz : lv (zR (x / 2 % nv) p z) (x / 2 % nv) = lv z (x / 2 % nv) := lv_of (by unfold zR; rw [upd_ne (by omega), upd_ne (by omega)])
    have heq : F_4reject (x / 2 % nv) p T = L_LactJ2_662 (x / 2 % nv) p S 8 := by
      have e1 : F_4reject (x / 2 % nv) p T = L_0leavesInCondition_5 (x / 2 % nv) (nI 2) (F_0findFaulty_T (x / 2 % nv) p T) (lt (F_0findFaulty_T (x / 2 % nv) p T) (x / 2 % nv)) := rfl
      rw [e1, hl2, e_with m1 (by omega) (nI 2) _ (by omega), lw_L (z := zR (x / 2 % nv) p z) (fun k hk => n1.1.lf _ k (by omega) hk) 8 (by omega)]
      have := lw_8 n2 hv (nI 2) (by decide) (8 - lv (zR (x / 2 % nv) p z) (x / 2 % nv)) (by omega)
      rw [← this, show lv (zR (x / 2 % nv) p z) (x / 2 % nv) + (8 - lv (zR (x / 2 % nv) p z) (x / 2 % nv)) = 8 by omega]
    have he9 : F_0leafFact (x / 2 % nv) p 0 T = nI 1 := (t_leaf h q hv hql).1.trans hj
    exact ⟨_, _, _, _, _, _, _, _, _, _, _, _, _, _, _, _, _, _, _, _, _, _, _, _, _, _, _, t, b', s_LactJ2 d w x y (TI_RT h wz) hc0 h4 hc1 h2 hc2 hr2 hc5 h12 (q.1.hL wz.lv) hx hy hos ha hsc hb hn0 hn1 hn2 (by omega) rfl rfl rfl hv hk he hw3 hw8 hL.1 (by omega) hL.2 hqq hql hj (by omega) he9 heq, ⟨m1, m2, n1, n2, n3.trans h3, p1, p2, p3, fun _ => p4⟩, Nat.le_refl _, Nat.le_refl _, Nat.le_refl _, show t ≤ t + 200 by omega⟩
  · exact act_skip s (s_LactJ1 d w x y (TI_RT h wz) hc0 h4 hc1 h2 hc2 hr2 hc5 h12 (q.1.hL wz.lv) hx hy hos ha hsc hb hn0 hn1 hn2 (by omega) rfl rfl rfl hv hk he hw3 hw8 hL.1 (by omega) hL.2 rfl hql hj)
theorem act_Y {o0 : List AC} {d x y : Nat} (s : SS T os sc V S N B R A O st C z nv nc nr ne t b) (hx : x < 2147483648) (hy : y < 2147483648) (hn0 : 0 < nv) (hn1 : 0 < nc) (hn2 : 0 < nr) : ACTR E d 18 x y o0 u0 l0 pg ph pc pm T K os sc tc tp tl_ tn trd tv tdg tf tla V S N B R A O st C nv nc nr (t + 200) := by
  obtain ⟨h, wz, q, lx, h3, ⟨a, ha, hos⟩, hsc, hb, hb1⟩ := id s
  have h4 := q.1.n4
  have h2 := q.1.n2
  have hr2 := q.r2
  have h12 := q.e12
  have hcc := q.cc
  have hc0 : C 0 = nI nv := (hcc 0 (by omega)).trans wz.nv.1
  have hc1 : C 1 = nI nc := (hcc 1 (by omega)).trans wz.nc.1
  have hc2 : C 2 = nI nr := (hcc 2 (by omega)).trans wz.nr.1
  have hc5 : C 5 = nI ne := (hcc 5 (by omega)).trans wz.ne.1
  have hv : x / 2 % nv < nv := Nat.mod_lt _ hn0
  have hk : y / 2 % nc < nc := Nat.mod_lt _ hn1
  have he : y / 2 ^ 3 / 2 % nr < nr := Nat.mod_lt _ hn2
  obtain ⟨m1, m2⟩ := mut_year h wz (nI (1800 + y / 2 % 400))
  obtain ⟨b', p1, p2, p3, p4⟩ := sv_ok ha hb hos hsc
  have n1 : LZ V S N B R A O st (upd C 4 (nI (1800 + y / 2 % 400))) (upd z 4 (nI (1800 + y / 2 % 400))) nv nc nr ne := by
    obtain ⟨q0, r1, r2, r3, r4, r5, r6, r7⟩ := q
    refine ⟨q0.updO (Or.inl (by omega)), fun k hk => ?_, fun v k hv hk => ?_, fun r u hr hu => ?_, fun e u he hu => ?_, r5, r6, fun v hv => ?_⟩
    · by_cases e : k = 4
      · subst e; rw [upd_eq, upd_eq]
      · rw [upd_ne e, upd_ne e]; exact r1 k hk
    · rw [upd_ne (by omega)]; exact r2 v k hv hk
    · rw [upd_ne (by omega)]; exact r3 r u hr hu
    · rw [upd_ne (by omega)]; exact r4 e u he hu
    · rw [lv_of (upd_ne (by omega))]; exact r7 v hv
  exact ⟨_, _, _, _, _, _, _, _, _, _, _, _, _, _, _, _, _, _, _, _, _, _, _, _, _, _, _, t, b', s_LactY d 18 x y (TI_RT h wz) hc0 h4 hc1 h2 hc2 hr2 hc5 h12 (q.1.hL wz.lv) hx hy hos ha hsc hb hn0 hn1 hn2 (by omega) rfl rfl rfl hv hk he rfl ((h.num 4 (by omega)).trans (hcc 4 (by omega)).symm), ⟨m1, m2, n1, lx.of (fun v hv => upd_ne (by omega)) (fun i hi => upd_ne (by omega)), (upd_ne (by omega)).trans h3, p1, p2, p3, fun _ => p4⟩, Nat.le_refl _, Nat.le_refl _, Nat.le_refl _, show t ≤ t + 200 by omega⟩
/-- a setting is changed -/
theorem lz_S {k : Nat} {x : Int32} (hk : k < 4) (q : LZ V S N B R A O st C z nv nc nr ne) (lx : LX z nv) : LZ V S N B R A O (upd st k x) C (upd z (7 + k) x) nv nc nr ne ∧ LX (upd z (7 + k) x) nv ∧ upd z (7 + k) x 3 = z 3 := by
  obtain ⟨⟨q1, q2, q3, q4, q5, q6, q7, q8, q9⟩, r1, r2, r3, r4, r5, r6, r7⟩ := q
  refine ⟨⟨⟨fun j hj => ?_, fun v u hv hu h5 => ?_, fun v hv => ?_, fun v k hv hk => ?_, fun v k hv hk => ?_, fun c u hc hu => ?_, fun v hv => ?_, q8, q9⟩, fun j hj => ?_, fun v k hv hk => ?_, fun r u hr hu => ?_, fun e u he hu => ?_, r5, r6, fun v hv => ?_⟩, lx.of (fun v hv => upd_ne (by omega)) (fun i hi => upd_ne (by omega)), upd_ne (by omega)⟩
  · by_cases e : j = k
    · subst e; rw [upd_eq, upd_eq]
    · rw [upd_ne e, upd_ne (by omega)]; exact q1 j hj
  · rw [upd_ne (by omega)]; exact q2 v u hv hu h5
  · rw [upd_ne (by omega)]; exact q3 v hv
  · rw [upd_ne (by omega)]; exact q4 v k hv hk
  · rw [upd_ne (by omega)]; exact q5 v k hv hk
  · rw [upd_ne (by omega)]; exact q6 c u hc hu
  · rw [lv_of (upd_ne (by omega))]; exact q7 v hv
  · rw [upd_ne (by omega)]; exact r1 j hj
  · rw [upd_ne (by omega)]; exact r2 v k hv hk
  · rw [upd_ne (by omega)]; exact r3 r u hr hu
  · rw [upd_ne (by omega)]; exact r4 e u he hu
  · rw [lv_of (upd_ne (by omega))]; exact r7 v hv
theorem act_S {sx : Nat → Int32} {sl : Nat} {d w x y : Nat} (s : SS T os sc V S N B R A O st C z nv nc nr ne t b) (hx : x < 2147483648) (hy : y < 2147483648) (hn0 : 0 < nv) (hn1 : 0 < nc) (hn2 : 0 < nr) (hw3 : 18 < w) (hw8 : w < 20) : ACTR E d w x y (ol_ sx sl lsS gsS) u0 l0 pg ph pc pm T K os sc tc tp tl_ tn trd tv tdg tf tla V S N B R A O st C nv nc nr (t + 200) := by
  obtain ⟨h, wz, q, lx, h3, ⟨a, ha, hos⟩, hsc, hb, hb1⟩ := id s
  have h4 := q.1.n4
  have h2 := q.1.n2
  have hr2 := q.r2
  have h12 := q.e12
  have hcc := q.cc
  have hc0 : C 0 = nI nv := (hcc 0 (by omega)).trans wz.nv.1
  have hc1 : C 1 = nI nc := (hcc 1 (by omega)).trans wz.nc.1
  have hc2 : C 2 = nI nr := (hcc 2 (by omega)).trans wz.nr.1
  have hc5 : C 5 = nI ne := (hcc 5 (by omega)).trans wz.ne.1
  have hv : x / 2 % nv < nv := Nat.mod_lt _ hn0
  have hk : y / 2 % nc < nc := Nat.mod_lt _ hn1
  have he : y / 2 ^ 3 / 2 % nr < nr := Nat.mod_lt _ hn2
  obtain ⟨b', p1, p2, p3, p4⟩ := sv_ok ha hb hos hsc
  have heq : ∀ k, k < 4 → F_4set k T = st k := fun k hk => (h.num (7 + k) (by omega)).trans (q.1.se k hk).symm
  obtain hi | hi | hi | hi : x / 2 % 4 = 0 ∨ x / 2 % 4 = 1 ∨ x / 2 % 4 = 2 ∨ x / 2 % 4 = 3 := by omega
  · obtain ⟨m1, m2⟩ := mut_num h wz (k := 7) (x := nI (1 + y / 2 % 5)) (by omega) (by omega) (by omega) (by omega) (by omega) ⟨fun e => by omega, fun _ => ⟨_, by omega, by omega, rfl⟩, fun e => by omega, fun e => by omega, fun e => by omega⟩
    obtain ⟨n1, n2, n3⟩ := lz_S (k := 0) (x := nI (1 + y / 2 % 5)) (by omega) q lx
    exact ⟨_, _, _, _, _, _, _, _, _, _, _, _, _, _, _, _, _, _, _, _, _, _, _, _, _, _, _, t, b', s_LactS0 d w x y (TI_RT h wz) hc0 h4 hc1 h2 hc2 hr2 hc5 h12 (q.1.hL wz.lv) hx hy hos ha hsc hb hn0 hn1 hn2 (by omega) rfl rfl rfl hv hk he hw3 hw8 hi (heq 0 (by omega)), ⟨m1, m2, n1, n2, n3.trans h3, p1, p2, p3, fun _ => p4⟩, Nat.le_refl _, Nat.le_refl _, Nat.le_refl _, show t ≤ t + 200 by omega⟩
  · obtain ⟨m1, m2⟩ := mut_num h wz (k := 8) (x := nI (y / 2 % 5)) (by omega) (by omega) (by omega) (by omega) (by omega) ⟨fun e => by omega, fun e => by omega, fun _ => ⟨_, by omega, rfl⟩, fun e => by omega, fun e => by omega⟩
    obtain ⟨n1, n2, n3⟩ := lz_S (k := 1) (x := nI (y / 2 % 5)) (by omega) q lx
    exact ⟨_, _, _, _, _, _, _, _, _, _, _, _, _, _, _, _, _, _, _, _, _, _, _, _, _, _, _, t, b', s_LactS1 d w x y (TI_RT h wz) hc0 h4 hc1 h2 hc2 hr2 hc5 h12 (q.1.hL wz.lv) hx hy hos ha hsc hb hn0 hn1 hn2 (by omega) rfl rfl rfl hv hk he hw3 hw8 hi (heq 1 (by omega)), ⟨m1, m2, n1, n2, n3.trans h3, p1, p2, p3, fun _ => p4⟩, Nat.le_refl _, Nat.le_refl _, Nat.le_refl _, show t ≤ t + 200 by omega⟩
  · obtain ⟨m1, m2⟩ := mut_num h wz (k := 9) (x := nI (1 + y / 2 % 9)) (by omega) (by omega) (by omega) (by omega) (by omega) ⟨fun e => by omega, fun e => by omega, fun e => by omega, fun _ => ⟨_, by omega, by omega, rfl⟩, fun e => by omega⟩
    obtain ⟨n1, n2, n3⟩ := lz_S (k := 2) (x := nI (1 + y / 2 % 9)) (by omega) q lx
    exact ⟨_, _, _, _, _, _, _, _, _, _, _, _, _, _, _, _, _, _, _, _, _, _, _, _, _, _, _, t, b', s_LactS2 d w x y (TI_RT h wz) hc0 h4 hc1 h2 hc2 hr2 hc5 h12 (q.1.hL wz.lv) hx hy hos ha hsc hb hn0 hn1 hn2 (by omega) rfl rfl rfl hv hk he hw3 hw8 hi (heq 2 (by omega)), ⟨m1, m2, n1, n2, n3.trans h3, p1, p2, p3, fun _ => p4⟩, Nat.le_refl _, Nat.le_refl _, Nat.le_refl _, show t ≤ t + 200 by omega⟩
  · obtain ⟨m1, m2⟩ := mut_num h wz (k := 10) (x := nI (y / 2 % 6)) (by omega) (by omega) (by omega) (by omega) (by omega) ⟨fun e => by omega, fun e => by omega, fun e => by omega, fun e => by omega, fun _ => ⟨_, by omega, rfl⟩⟩
    obtain ⟨n1, n2, n3⟩ := lz_S (k := 3) (x := nI (y / 2 % 6)) (by omega) q lx
    exact ⟨_, _, _, _, _, _, _, _, _, _, _, _, _, _, _, _, _, _, _, _, _, _, _, _, _, _, _, t, b', s_LactS3 d w x y (TI_RT h wz) hc0 h4 hc1 h2 hc2 hr2 hc5 h12 (q.1.hL wz.lv) hx hy hos ha hsc hb hn0 hn1 hn2 (by omega) rfl rfl rfl hv hk he hw3 hw8 hi (heq 3 (by omega)), ⟨m1, m2, n1, n2, n3.trans h3, p1, p2, p3, fun _ => p4⟩, Nat.le_refl _, Nat.le_refl _, Nat.le_refl _, show t ≤ t + 200 by omega⟩
end ACTS3
