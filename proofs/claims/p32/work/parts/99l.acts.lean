/-! WHAT THE ACTS LEAVE: the class's tables, the reference's cells and the law's arrays go on agreeing -/
/-- beyond a volume's last leaf there is nothing -/
def LX (z : Nat → Int32) (nv : Nat) : Prop := (∀ v k, v < nv → lv z v ≤ k → k < 40 → z (423 + 3 * (40 * v + k) + 0) = nI 0) ∧ ∀ v k, v < 12 → k < 40 → 0 ≤ z (423 + 3 * (40 * v + k) + 2)
/-- all that a turn keeps -/
def SS (T : Nat → Nat → Int32) (os sc : Int32) (V S N B R A O st C z : Nat → Int32) (nv nc nr ne t b : Nat) : Prop :=
  RT T z nv nc ∧ WZ z nv nc nr ne ∧ LZ V S N B R A O st C z nv nc nr ne ∧ LX z nv ∧ z 3 = nI t ∧ (∃ a : Nat, a < 6 ∧ os = nI a) ∧ sc = nI b ∧ b ≤ 6 ∧ (0 < nv → 1 ≤ b)
/-- an act is carried out: the class answers as the law, and they go on agreeing -/
def ACTR (E : AE) (d w x y : Nat) (o0 u0 l0 : List AC) (pg ph pc : Nat → Int32) (pm : Int32) (T K : Nat → Nat → Int32) (os sc : Int32) (tc tp : Nat → Int32) (tl_ tn trd tv tdg tf tla : Int32) (V S N B R A O st C : Nat → Int32) (nv1 nc1 nr1 t1 : Nat) : Prop :=
  ∃ (T' K' : Nat → Nat → Int32) (os' sc' : Int32) (tc' tp' : Nat → Int32) (tl' tn' trd' tv' tdg' tf' tla' : Int32) (V' S' N' B' R' A' O' st' C' z' : Nat → Int32) (nv' nc' nr' ne' t' b' : Nat),
    CT E M_L_act (d + 7) [.ref 4096, .int (nI (w)), .int (nI (x)), .int (nI (y)), .ref 16384, .ref 16385, .ref 16386, .ref 16387, .ref 16388, .ref 16389, .ref 16390, .ref 16391, .ref 16392] (hp o0 (ar T K os sc) (te_ tc tp tl_ tn trd tv tdg tf tla) (pl pg ph pc pm) (la_ V S N B R A O st C) u0 l0) (.inl (some (.int (nI (1))))) (hp o0 (ar T' K' os' sc') (te_ tc' tp' tl' tn' trd' tv' tdg' tf' tla') (pl pg ph pc pm) (la_ V' S' N' B' R' A' O' st' C') u0 l0) 0 0 ∧
    SS T' os' sc' V' S' N' B' R' A' O' st' C' z' nv' nc' nr' ne' t' b' ∧ nv1 ≤ nv' ∧ nc1 ≤ nc' ∧ nr1 ≤ nr' ∧ t' ≤ t1
theorem sv_ok {a b : Nat} {os sc : Int32} (ha : a < 6) (hb : b ≤ 6) (hos : os = nI a) (hsc : sc = nI b) : ∃ b' : Nat, (∃ a' : Nat, a' < 6 ∧ F_0save_os a b os = nI a') ∧ F_0save_sc b sc = nI b' ∧ b' ≤ 6 ∧ 1 ≤ b' := by
  unfold F_0save_os F_0save_sc
  by_cases h : 6 ≤ b
  · rw [if_pos h, if_pos h]
    exact ⟨b, ⟨(a + 1) % 6, by omega, rfl⟩, hsc, hb, by omega⟩
  · rw [if_neg h, if_neg h]
    exact ⟨b + 1, ⟨a, ha, hos⟩, nI_add b 1, by omega, by omega⟩
section ACTS
variable {E : AE} {o0 u0 l0 : List AC} {pg ph pc : Nat → Int32} {pm : Int32} {T K : Nat → Nat → Int32} {os sc : Int32} {tc tp : Nat → Int32} {tl_ tn trd tv tdg tf tla : Int32} {V S N B R A O st C z : Nat → Int32} {nv nc nr ne t b : Nat}
theorem lv_of {z z' : Nat → Int32} {v : Nat} (e : z' (11 + 7 * v + 2) = z (11 + 7 * v + 2)) : lv z' v = lv z v := by
  unfold lv
  rw [e]
theorem LX.of {z z' : Nat → Int32} (h : LX z nv) (e2 : ∀ v, v < nv → z' (11 + 7 * v + 2) = z (11 + 7 * v + 2)) (e : ∀ i, 423 ≤ i → z' i = z i) : LX z' nv := ⟨fun v k hv h1 h2 => by
  rw [lv_of (e2 v hv)] at h1
  rw [e _ (by omega)]
  exact h.1 v k hv h1 h2, fun v k hv hk => by
  rw [e _ (by omega)]
  exact h.2 v k hv hk⟩
/-- nothing done -/
theorem act_skip {d w x y : Nat} (s : SS T os sc V S N B R A O st C z nv nc nr ne t b) (hc : CT E M_L_act (d + 7) [.ref 4096, .int (nI (w)), .int (nI (x)), .int (nI (y)), .ref 16384, .ref 16385, .ref 16386, .ref 16387, .ref 16388, .ref 16389, .ref 16390, .ref 16391, .ref 16392] (hp o0 (ar T K os sc) (te_ tc tp tl_ tn trd tv tdg tf tla) (pl pg ph pc pm) (la_ V S N B R A O st C) u0 l0) (.inl (some (.int (nI (1))))) (hp o0 (ar T K os sc) (te_ tc tp tl_ tn trd tv tdg tf tla) (pl pg ph pc pm) (la_ V S N B R A O st C) u0 l0) 0 0) : ACTR E d w x y o0 u0 l0 pg ph pc pm T K os sc tc tp tl_ tn trd tv tdg tf tla V S N B R A O st C nv nc nr (t + 200) :=
  ⟨T, K, os, sc, tc, tp, tl_, tn, trd, tv, tdg, tf, tla, V, S, N, B, R, A, O, st, C, z, nv, nc, nr, ne, t, b, hc, s, Nat.le_refl _, Nat.le_refl _, Nat.le_refl _, by omega⟩
/-- a volume is added -/
theorem lz_V {a0 a1 a2 a3 : Nat} (w : WZ z nv nc nr ne) (q : LZ V S N B R A O st C z nv nc nr ne) (hx : LX z nv) (h4 : nv < 4) (h2 : 1 ≤ a2 ∧ a2 ≤ 8) : LZ (upd (upd (upd (upd (upd V (7 * nv) (nI a0)) ((7 * nv) + 1) (nI a1)) ((7 * nv) + 2) (nI a2)) ((7 * nv) + 3) (nI a3)) ((7 * nv) + 5) (-1)) S N B R A O st (upd C 0 (nI (nv + 1))) (zV (nI a0) (nI a1) (nI a2) (nI a3) nv z) (nv + 1) nc nr ne ∧ LX (zV (nI a0) (nI a1) (nI a2) (nI a3) nv z) (nv + 1) := by
  obtain ⟨⟨q1, q2, q3, q4, q5, q6, q7, q8, q9⟩, r1, r2, r3, r4, r5, r6, r7⟩ := q
  obtain ⟨c0, c1, c2, c3, c4⟩ := zV_at (z := z) (nv := nv) (b0 := nI a0) (b1 := nI a1) (b2 := nI a2) (b3 := nI a3)
  have ne_ : ∀ {i : Nat}, i ≠ 0 → i ≠ 11 + 7 * nv + 0 → i ≠ 11 + 7 * nv + 1 → i ≠ 11 + 7 * nv + 2 → i ≠ 11 + 7 * nv + 3 → zV (nI a0) (nI a1) (nI a2) (nI a3) nv z i = z i := fun h0 h1 h2 h3 h4 => zV_ne h0 h1 h2 h3 h4
  have hl : ∀ v, v < nv + 1 → (v = nv ∧ lv (zV (nI a0) (nI a1) (nI a2) (nI a3) nv z) v = a2) ∨ (v < nv ∧ lv (zV (nI a0) (nI a1) (nI a2) (nI a3) nv z) v = lv z v) := fun v hv => by
    by_cases e : v = nv
    · subst e
      exact Or.inl ⟨rfl, by unfold lv; rw [c3, nI_clamp (by omega)]⟩
    · exact Or.inr ⟨by omega, lv_of (ne_ (by omega) (by omega) (by omega) (by omega) (by omega))⟩
  refine ⟨⟨⟨fun k hk => ?_, fun v u hv hu h5 => ?_, fun v hv => ?_, fun v k hv hk => ?_, fun v k hv hk => ?_, fun c u hc hu => ?_, fun v hv => ?_, by omega, q9⟩, fun k hk => ?_, fun v k hv hk => ?_, fun r u hr hu => ?_, fun e u he hu => ?_, r5, r6, fun v hv => ?_⟩, fun v k hv hk hk2 => ?_, fun v k hv hk => ?_⟩
  · rw [ne_ (by omega) (by omega) (by omega) (by omega) (by omega)]; exact q1 k hk
  · by_cases e : v = nv
    · subst e
      rw [upd_ne (by omega)]
      obtain rfl | rfl | rfl | rfl | h6 : u = 0 ∨ u = 1 ∨ u = 2 ∨ u = 3 ∨ (u = 4 ∨ u = 6) := by omega
      · rw [upd_ne (by omega), upd_ne (by omega), upd_ne (by omega), show 7 * v + 0 = 7 * v from rfl, upd_eq, c1]
      · rw [upd_ne (by omega), upd_ne (by omega), upd_eq, c2]
      · rw [upd_ne (by omega), upd_eq, c3]
      · rw [upd_eq, c4]
      · rw [upd_ne (by omega), upd_ne (by omega), upd_ne (by omega), upd_ne (by omega), ne_ (by omega) (by omega) (by omega) (by omega) (by omega)]
        exact q2 v u hv hu h5
    · rw [upd_ne (by omega), upd_ne (by omega), upd_ne (by omega), upd_ne (by omega), upd_ne (by omega), ne_ (by omega) (by omega) (by omega) (by omega) (by omega)]
      exact q2 v u hv hu h5
  · by_cases e : v = nv
    · subst e
      rw [upd_eq, ne_ (by omega) (by omega) (by omega) (by omega) (by omega), w.vol0 v 5 (by omega) (by omega) (by omega), of1_0]
    · rw [upd_ne (by omega), upd_ne (by omega), upd_ne (by omega), upd_ne (by omega), upd_ne (by omega), ne_ (by omega) (by omega) (by omega) (by omega) (by omega)]
      exact q3 v (by omega)
  · rw [ne_ (by omega) (by omega) (by omega) (by omega) (by omega)]; exact q4 v k hv hk
  · rw [ne_ (by omega) (by omega) (by omega) (by omega) (by omega)]; exact q5 v k hv hk
  · rw [ne_ (by omega) (by omega) (by omega) (by omega) (by omega)]; exact q6 c u hc hu
  · rcases hl v hv with ⟨_, e⟩ | ⟨h, e⟩
    · omega
    · rw [e]; exact q7 v h
  · by_cases e : k = 0
    · subst e; rw [upd_eq, c0]
    · rw [upd_ne e, ne_ e (by omega) (by omega) (by omega) (by omega)]; exact r1 k hk
  · rw [ne_ (by omega) (by omega) (by omega) (by omega) (by omega)]; exact r2 v k hv hk
  · rw [ne_ (by omega) (by omega) (by omega) (by omega) (by omega)]; exact r3 r u hr hu
  · rw [ne_ (by omega) (by omega) (by omega) (by omega) (by omega)]; exact r4 e u he hu
  · rcases hl v hv with ⟨_, e⟩ | ⟨h, e⟩
    · omega
    · rw [e]; exact r7 v h
  · rw [ne_ (by omega) (by omega) (by omega) (by omega) (by omega)]
    rcases hl v hv with ⟨h, e⟩ | ⟨h, e⟩
    · exact w.leaf0 v k 0 (by omega) (by omega) hk2 (by omega)
    · rw [e] at hk
      exact hx.1 v k h hk hk2
  · rw [ne_ (by omega) (by omega) (by omega) (by omega) (by omega)]
    exact hx.2 v k hv hk
theorem act_V {d x y : Nat} (s : SS T os sc V S N B R A O st C z nv nc nr ne t b) (hx : x < 2147483648) (hy : y < 2147483648) : ACTR E d 0 x y o0 u0 l0 pg ph pc pm T K os sc tc tp tl_ tn trd tv tdg tf tla V S N B R A O st C (min (nv + 1) 4) nc nr (t + 200) := by
  obtain ⟨h, w, q, lx, h3, ⟨a, ha, hos⟩, hsc, hb, hb1⟩ := id s
  have h4 := q.1.n4
  have hcc := q.cc
  by_cases hn : nv < 4
  · have key : ∀ b3 : Nat, b3 ≤ 3 → SS (F_LactV_T x y nv b3 T) (F_LactV_os a b os) (F_LactV_sc b sc) (F_LactV_vo x y nv b3 V) S N B R A O st (F_LactV_cc nv C) (zV (nI (x / 2 % 20)) (nI (1 + y / 2 % 3)) (nI (1 + x / 2 ^ 5 / 2 % 8)) (nI b3) nv z) (nv + 1) nc nr ne t (if 6 ≤ b then b else b + 1) := fun b3 h9 => by
      obtain ⟨m1, m2⟩ := mut_volume h w (by omega) (a0 := x / 2 % 20) (a1 := 1 + y / 2 % 3) (a2 := 1 + x / 2 ^ 5 / 2 % 8) (a3 := b3) (by omega) (by omega) (by omega) h9
      obtain ⟨n1, n2⟩ := lz_V (a0 := x / 2 % 20) (a1 := 1 + y / 2 % 3) (a2 := 1 + x / 2 ^ 5 / 2 % 8) (a3 := b3) w q lx hn (by omega)
      refine ⟨m1, m2, n1, n2, ?_, ?_, ?_, by split <;> omega, fun _ => by split <;> omega⟩
      · rw [zV_ne (by omega) (by omega) (by omega) (by omega) (by omega)]; exact h3
      · show ∃ a' : Nat, a' < 6 ∧ F_0save_os a b os = nI a'
        unfold F_0save_os
        split
        · exact ⟨(a + 1) % 6, by omega, rfl⟩
        · exact ⟨a, ha, hos⟩
      · show F_0save_sc b sc = _
        unfold F_0save_sc
        split
        · exact hsc
        · exact nI_add b 1
    have hc0 : C 0 = nI nv := (hcc 0 (by omega)).trans w.nv.1
    have hc1 : C 1 = nI nc := (hcc 1 (by omega)).trans w.nc.1
    have hc2 : C 2 = nI nr := (hcc 2 (by omega)).trans w.nr.1
    have hc5 : C 5 = nI ne := (hcc 5 (by omega)).trans w.ne.1
    by_cases h33 : y / 2 ^ 3 / 2 % 4 = 3
    · refine ⟨_, _, _, _, _, _, _, _, _, _, _, _, _, _, _, _, _, _, _, _, _, _, _, _, _, _, _, _, _, s_LactV d x y (TI_RT h w) hc0 h4 hc1 q.1.n2 hc2 q.r2 hc5 q.e12 (q.1.hL w.lv) hx hy hos ha hsc hb hn h33 rfl (by omega), key _ (by omega), by omega, Nat.le_refl _, Nat.le_refl _, by omega⟩
    · refine ⟨_, _, _, _, _, _, _, _, _, _, _, _, _, _, _, _, _, _, _, _, _, _, _, _, _, _, _, _, _, s_LactV2 d x y (TI_RT h w) hc0 h4 hc1 q.1.n2 hc2 q.r2 hc5 q.e12 (q.1.hL w.lv) hx hy hos ha hsc hb hn h33 rfl (by omega), key _ (by omega), by omega, Nat.le_refl _, Nat.le_refl _, by omega⟩
  · have hc0 : C 0 = nI nv := (hcc 0 (by omega)).trans w.nv.1
    have hc1 : C 1 = nI nc := (hcc 1 (by omega)).trans w.nc.1
    have hc2 : C 2 = nI nr := (hcc 2 (by omega)).trans w.nr.1
    have hc5 : C 5 = nI ne := (hcc 5 (by omega)).trans w.ne.1
    have := act_skip (d := d) s (s_LactV4 (E := E) (tc := tc) (tp := tp) (tl_ := tl_) (tn := tn) (trd := trd) (tv := tv) (tdg := tdg) (tf := tf) (tla := tla) (K := K) (o0 := o0) (u0 := u0) (l0 := l0) (pg := pg) (ph := ph) (pc := pc) (pm := pm) d x y (TI_RT h w) hc0 h4 hc1 q.1.n2 hc2 q.r2 hc5 q.e12 (q.1.hL w.lv) hx hy hos ha hsc hb (by omega))
    rw [show min (nv + 1) 4 = nv by omega]
    exact this
/-- a cradle is added -/
theorem lz_C {a0 a1 : Nat} (w : WZ z nv nc nr ne) (q : LZ V S N B R A O st C z nv nc nr ne) (hx : LX z nv) (h2 : nc < 2) : LZ V S N B (upd (upd R (4 * nc) (nI a0)) ((4 * nc) + 1) (nI a1)) A O st (upd C 1 (nI (nc + 1))) (zC (nI a0) (nI a1) nc z) nv (nc + 1) nr ne ∧ LX (zC (nI a0) (nI a1) nc z) nv := by
  obtain ⟨⟨q1, q2, q3, q4, q5, q6, q7, q8, q9⟩, r1, r2, r3, r4, r5, r6, r7⟩ := q
  obtain ⟨c0, c1, c2, hi'⟩ := zC_at (z := z) (nc := nc) (b0 := nI a0) (b1 := nI a1)
  have ne_ : ∀ {i : Nat}, i ≠ 1 → i ≠ 95 + 4 * nc + 0 → i ≠ 95 + 4 * nc + 1 → zC (nI a0) (nI a1) nc z i = z i := fun h1 h2 h3 => hi' _ h1 h2 h3
  refine ⟨⟨⟨fun k hk => ?_, fun v u hv hu h5 => ?_, fun v hv => ?_, fun v k hv hk => ?_, fun v k hv hk => ?_, fun c u hc hu => ?_, fun v hv => ?_, q8, by omega⟩, fun k hk => ?_, fun v k hv hk => ?_, fun r u hr hu => ?_, fun e u he hu => ?_, r5, r6, fun v hv => ?_⟩, hx.of (fun v hv => ne_ (by omega) (by omega) (by omega)) (fun i hi => ne_ (by omega) (by omega) (by omega))⟩
  · rw [ne_ (by omega) (by omega) (by omega)]; exact q1 k hk
  · rw [ne_ (by omega) (by omega) (by omega)]; exact q2 v u hv hu h5
  · rw [ne_ (by omega) (by omega) (by omega)]; exact q3 v (by omega)
  · rw [ne_ (by omega) (by omega) (by omega)]; exact q4 v k hv hk
  · rw [ne_ (by omega) (by omega) (by omega)]; exact q5 v k hv hk
  · by_cases e : c = nc
    · subst e
      obtain rfl | rfl | h6 : u = 0 ∨ u = 1 ∨ (u = 2 ∨ u = 3) := by omega
      · rw [upd_ne (by omega), show 4 * c + 0 = 4 * c from rfl, upd_eq, c1]
      · rw [upd_eq, c2]
      · rw [upd_ne (by omega), upd_ne (by omega), ne_ (by omega) (by omega) (by omega)]; exact q6 c u hc hu
    · rw [upd_ne (by omega), upd_ne (by omega), ne_ (by omega) (by omega) (by omega)]; exact q6 c u hc hu
  · rw [lv_of (ne_ (by omega) (by omega) (by omega))]; exact q7 v hv
  · by_cases e : k = 1
    · subst e; rw [upd_eq, c0]
    · rw [upd_ne e, ne_ e (by omega) (by omega)]; exact r1 k hk
  · rw [ne_ (by omega) (by omega) (by omega)]; exact r2 v k hv hk
  · rw [ne_ (by omega) (by omega) (by omega)]; exact r3 r u hr hu
  · rw [ne_ (by omega) (by omega) (by omega)]; exact r4 e u he hu
  · rw [lv_of (ne_ (by omega) (by omega) (by omega))]; exact r7 v hv
theorem act_C {d x y : Nat} (s : SS T os sc V S N B R A O st C z nv nc nr ne t b) (hx : x < 2147483648) (hy : y < 2147483648) (hn0 : 0 < nv) : ACTR E d 1 x y o0 u0 l0 pg ph pc pm T K os sc tc tp tl_ tn trd tv tdg tf tla V S N B R A O st C nv (min (nc + 1) 2) nr (t + 200) := by
  obtain ⟨h, w, q, lx, h3, ⟨a, ha, hos⟩, hsc, hb, hb1⟩ := id s
  have h4 := q.1.n4
  have h2 := q.1.n2
  have hcc := q.cc
  have hc0 : C 0 = nI nv := (hcc 0 (by omega)).trans w.nv.1
  have hc1 : C 1 = nI nc := (hcc 1 (by omega)).trans w.nc.1
  have hc2 : C 2 = nI nr := (hcc 2 (by omega)).trans w.nr.1
  have hc5 : C 5 = nI ne := (hcc 5 (by omega)).trans w.ne.1
  by_cases hn : nc < 2
  · obtain ⟨m1, m2⟩ := mut_cradle h w (by omega) (b0 := nI (1 + x / 2 % 3)) (b1 := nI (y / 2 % 3)) (a1 := y / 2 % 3) (by omega) rfl
    obtain ⟨n1, n2⟩ := lz_C (a0 := 1 + x / 2 % 3) (a1 := y / 2 % 3) w q lx hn
    obtain ⟨b', p1, p2, p3, p4⟩ := sv_ok ha hb hos hsc
    refine ⟨_, _, _, _, _, _, _, _, _, _, _, _, _, _, _, _, _, _, _, _, _, _, _, _, _, _, _, _, _, s_LactC d x y (TI_RT h w) hc0 h4 hc1 q.1.n2 hc2 q.r2 hc5 q.e12 (q.1.hL w.lv) hx hy hos ha hsc hb hn0 hn, ⟨m1, m2, n1, n2, ?_, p1, p2, p3, fun _ => p4⟩, Nat.le_refl _, by omega, Nat.le_refl _, show t ≤ t + 200 by omega⟩
    rw [(zC_at (z := z)).2.2.2 _ (by omega) (by omega) (by omega)]
    exact h3
  · have := act_skip (d := d) s (s_LactC4 (E := E) (tc := tc) (tp := tp) (tl_ := tl_) (tn := tn) (trd := trd) (tv := tv) (tdg := tdg) (tf := tf) (tla := tla) (K := K) (o0 := o0) (u0 := u0) (l0 := l0) (pg := pg) (ph := ph) (pc := pc) (pm := pm) d x y (TI_RT h w) hc0 h4 hc1 q.1.n2 hc2 q.r2 hc5 q.e12 (q.1.hL w.lv) hx hy hos ha hsc hb hn0 (by omega))
    rw [show min (nc + 1) 2 = nc by omega]
    exact this
/-- a carrier is added -/
theorem lz_R (w : WZ z nv nc nr ne) (q : LZ V S N B R A O st C z nv nc nr ne) (hx : LX z nv) (h2 : nr < 2) : LZ V S N B R A O st (upd C 2 (nI (nr + 1))) (upd z 2 (nI (nr + 1))) nv nc (nr + 1) ne ∧ LX (upd z 2 (nI (nr + 1))) nv := by
  obtain ⟨q0, r1, r2, r3, r4, r5, r6, r7⟩ := q
  refine ⟨⟨q0.updO (Or.inl (by omega)), fun k hk => ?_, fun v k hv hk => ?_, fun r u hr hu => ?_, fun e u he hu => ?_, by omega, r6, fun v hv => ?_⟩, hx.of (fun v hv => upd_ne (by omega)) (fun i hi => upd_ne (by omega))⟩
  · by_cases e : k = 2
    · subst e; rw [upd_eq, upd_eq]
    · rw [upd_ne e, upd_ne e]; exact r1 k hk
  · rw [upd_ne (by omega)]; exact r2 v k hv hk
  · rw [upd_ne (by omega)]; exact r3 r u hr hu
  · rw [upd_ne (by omega)]; exact r4 e u he hu
  · rw [lv_of (upd_ne (by omega))]; exact r7 v hv
theorem act_R {d x y : Nat} (s : SS T os sc V S N B R A O st C z nv nc nr ne t b) (hx : x < 2147483648) (hy : y < 2147483648) (hn0 : 0 < nv) (hn1 : 0 < nc) : ACTR E d 2 x y o0 u0 l0 pg ph pc pm T K os sc tc tp tl_ tn trd tv tdg tf tla V S N B R A O st C nv nc (min (nr + 1) 2) (t + 200) := by
  obtain ⟨h, w, q, lx, h3, ⟨a, ha, hos⟩, hsc, hb, hb1⟩ := id s
  have h4 := q.1.n4
  have h2 := q.1.n2
  have hr2 := q.r2
  have hcc := q.cc
  have hc0 : C 0 = nI nv := (hcc 0 (by omega)).trans w.nv.1
  have hc1 : C 1 = nI nc := (hcc 1 (by omega)).trans w.nc.1
  have hc2 : C 2 = nI nr := (hcc 2 (by omega)).trans w.nr.1
  have hc5 : C 5 = nI ne := (hcc 5 (by omega)).trans w.ne.1
  by_cases hn : nr < 2
  · obtain ⟨m1, m2⟩ := mut_carrier h w (by omega)
    obtain ⟨n1, n2⟩ := lz_R w q lx hn
    obtain ⟨b', p1, p2, p3, p4⟩ := sv_ok ha hb hos hsc
    refine ⟨_, _, _, _, _, _, _, _, _, _, _, _, _, _, _, _, _, _, _, _, _, _, _, _, _, _, _, _, _, s_LactR d x y (TI_RT h w) hc0 h4 hc1 q.1.n2 hc2 q.r2 hc5 q.e12 (q.1.hL w.lv) hx hy hos ha hsc hb hn0 hn1 hn, ⟨m1, m2, n1, n2, ?_, p1, p2, p3, fun _ => p4⟩, Nat.le_refl _, Nat.le_refl _, by omega, show t ≤ t + 200 by omega⟩
    rw [upd_ne (by omega)]
    exact h3
  · have := act_skip (d := d) s (s_LactR4 (E := E) (tc := tc) (tp := tp) (tl_ := tl_) (tn := tn) (trd := trd) (tv := tv) (tdg := tdg) (tf := tf) (tla := tla) (K := K) (o0 := o0) (u0 := u0) (l0 := l0) (pg := pg) (ph := ph) (pc := pc) (pm := pm) d x y (TI_RT h w) hc0 h4 hc1 q.1.n2 hc2 q.r2 hc5 q.e12 (q.1.hL w.lv) hx hy hos ha hsc hb hn0 hn1 (by omega))
    rw [show min (nr + 1) 2 = nr by omega]
    exact this
end ACTS
