/-! THE LAW'S LOOP -/
section LOOP
variable {l : Launch} {D : va_G} {cI : ClassId} {old : Nat → Nat} {N0 : Nat} {sx : Nat → Int32} {sl : Nat}
theorem g_L_law_323_2 : ab_oks M_L_law [(323, .aload_n 1, 1, 1, 0, 0, .null), (324, .bipush 13, 2, 0, 0, 0, .int (nI (13)))] = true := by decide +kernel
theorem dc_L_law_326 : decode (AM.bytes M_L_law) 326 = .ok (.invokevirtual 45, 3) := by decide +kernel
theorem dc_L_law_329 : decode (AM.bytes M_L_law) 329 = .ok (.ifCond .le 7, 3) := by decide +kernel
theorem g_L_law_332_2 : ab_oks M_L_law [(332, .iconst 1, 1, 0, 0, 0, .int (nI (1))), (333, .goto 4, 3, 337, 0, 0, .null)] = true := by decide +kernel
theorem dc_L_law_337 : decode (AM.bytes M_L_law) 337 = .ok (.ireturn, 1) := by decide +kernel
set_option maxHeartbeats 4000000 in
set_option maxRecDepth 100000 in
theorem law_end {pg ph pc : Nat → Int32} {pm : Int32} {T K : Nat → Nat → Int32} {os sc : Int32} {tc tp : Nat → Int32} {tl tn trd tv tdg tf tla : Int32} {V S N B R A O st C z : Nat → Int32} {nv nc nr ne t b : Nat} {Tl : List (Nat × (Nat → Int32))} (s : SS T os sc V S N B R A O st C z nv nc nr ne t b) (hv : 0 < nv) : ∃ h', AR (EM l D cI old N0 0) M_L_law 11 136 [some (.ref 0), some (.ref 4096), some (.ref 16384), some (.ref 16385), some (.ref 16386), some (.ref 16387), some (.ref 16388), some (.ref 16389), some (.ref 16390), some (.ref 16391), some (.ref 16392), some (.int (nI (40))), none, none, none] [] (hp (ol_ sx sl lsS gsS) (ar T K os sc) (te_ tc tp tl tn trd tv tdg tf tla) (pl pg ph pc pm) (la_ V S N B R A O st C) (xs_ []) (xs_ Tl)) (.inl (some (.int (nI (1))))) h' (186 * (6 - 40 / 6)) (3565 * (6 - 40 / 6)) := by
  obtain ⟨h, w, q, lx, h3, -, hsc, hb, hb1⟩ := id s
  have b1 := hb1 hv
  refine ⟨(hp (ol_ sx sl lsS gsS) (ar T K os sc) (te_ tc tp tl tn trd tv tdg tf tla) (pl pg ph pc pm) (la_ V S N B R A O st C) (xs_ []) (xs_ Tl)), ?_⟩
  refine AR.run g_L_law_136_2 140 [some (.ref 0), some (.ref 4096), some (.ref 16384), some (.ref 16385), some (.ref 16386), some (.ref 16387), some (.ref 16388), some (.ref 16389), some (.ref 16390), some (.ref 16391), some (.ref 16392), some (.int (nI (40))), none, none, none] [.int (nI (40)), .int (nI (40))] _ [] rfl trivial ?_
  refine AR.ge2N (tgt := 323) (a := 40) (b := 40) dc_L_law_140 (by decide) rfl rfl (by omega) (by omega) (fun _ => ?_) (fun c => absurd c (by omega))
  refine AR.run g_L_law_323_2 326 [some (.ref 0), some (.ref 4096), some (.ref 16384), some (.ref 16385), some (.ref 16386), some (.ref 16387), some (.ref 16388), some (.ref 16389), some (.ref 16390), some (.ref 16391), some (.ref 16392), some (.int (nI (40))), none, none, none] [.int (nI (13)), .ref 4096] _ [] rfl trivial ?_
  refine AR.callV1 (4096) [.int (nI (13))] [] lk_L_45 dc_L_law_326 rfl rfl (s_4count 4 13 (TI_RT h w) (by omega)) rfl rfl ?_
  refine AR.top (y := nI b) hsc ?_
  refine AR.leN (tgt := 336) (a := b) dc_L_law_329 (by decide) rfl (by omega) (fun c => absurd c (by omega)) (fun _ => ?_)
  refine AR.run g_L_law_332_2 337 [some (.ref 0), some (.ref 4096), some (.ref 16384), some (.ref 16385), some (.ref 16386), some (.ref 16387), some (.ref 16388), some (.ref 16389), some (.ref 16390), some (.ref 16391), some (.ref 16392), some (.int (nI (40))), none, none, none] [.int (nI (1))] _ [] rfl trivial ?_
  exact AR.retZ dc_L_law_337 rfl (Or.inr rfl) rfl rfl
theorem law_loop (hsl : sl ≤ 1000) : ∀ (k j : Nat), j + k = 40 → ∀ {pg ph pc : Nat → Int32} {pm : Int32} {T K : Nat → Nat → Int32} {os sc : Int32} {tc tp : Nat → Int32} {tl tn trd tv tdg tf tla : Int32} {V S N B R A O st C z : Nat → Int32} {nv nc nr ne t b : Nat} {Tl : List (Nat × (Nat → Int32))}, SS T os sc V S N B R A O st C z nv nc nr ne t b → ph 4 = nI 0 → min j 3 ≤ nv → min (j - 3) 2 ≤ nc → min (j - 5) 2 ≤ nr → t ≤ 200 * j → Tl.length ≤ 186 * (j / 6 + 1) → ∃ h', AR (EM l D cI old N0 0) M_L_law 11 136 [some (.ref 0), some (.ref 4096), some (.ref 16384), some (.ref 16385), some (.ref 16386), some (.ref 16387), some (.ref 16388), some (.ref 16389), some (.ref 16390), some (.ref 16391), some (.ref 16392), some (.int (nI (j))), none, none, none] [] (hp (ol_ sx sl lsS gsS) (ar T K os sc) (te_ tc tp tl tn trd tv tdg tf tla) (pl pg ph pc pm) (la_ V S N B R A O st C) (xs_ []) (xs_ Tl)) (.inl (some (.int (nI (1))))) h' (186 * (6 - j / 6)) (3565 * (6 - j / 6))
  | 0, j, hj, pg, ph, pc, pm, T, K, os, sc, tc, tp, tl, tn, trd, tv, tdg, tf, tla, V, S, N, B, R, A, O, st, C, z, nv, nc, nr, ne, t, b, Tl, s, h4, hv, hc, hr, ht, hTl => by
    have e : j = 40 := by omega
    subst e
    exact law_end s (by omega)
  | k + 1, j, hj, pg, ph, pc, pm, T, K, os, sc, tc, tp, tl, tn, trd, tv, tdg, tf, tla, V, S, N, B, R, A, O, st, C, z, nv, nc, nr, ne, t, b, Tl, s, h4, hv, hc, hr, ht, hTl =>
    law_turn j (by omega) hsl s h4 hv hc hr ht hTl fun T' K' os' sc' tc' tp' tl' tn' trd' tv' tdg' tf' tla' V' S' N' B' R' A' O' st' C' z' nv' nc' nr' ne' t' b' pg' ph' pc' pm' Tl' q1 q2 q3 q4 q5 q6 q7 => law_loop hsl k (j + 1) (by omega) q1 q2 q3 q4 q5 q6 q7
theorem g_L_law_87_11 : ab_oks M_L_law [(87, .aload_n 1, 1, 1, 0, 0, .null), (88, .iconst 3, 1, 0, 0, 0, .int (nI (3))), (89, .aload_n 2, 1, 2, 0, 0, .null), (90, .aload_n 3, 1, 3, 0, 0, .null), (91, .aload 4, 2, 4, 0, 0, .null), (93, .aload 5, 2, 5, 0, 0, .null), (95, .aload 6, 2, 6, 0, 0, .null), (97, .aload 7, 2, 7, 0, 0, .null), (99, .aload 8, 2, 8, 0, 0, .null), (101, .aload 9, 2, 9, 0, 0, .null), (103, .aload 10, 2, 10, 0, 0, .null)] = true := by decide +kernel
theorem dc_L_law_105 : decode (AM.bytes M_L_law) 105 = .ok (.invokestatic 156, 3) := by decide +kernel
theorem dc_L_law_108 : decode (AM.bytes M_L_law) 108 = .ok (.ifCond .eq 23, 3) := by decide +kernel
theorem g_L_law_111_9 : ab_oks M_L_law [(111, .aload_n 1, 1, 1, 0, 0, .null), (112, .iconst 5, 1, 0, 0, 0, .int (nI (5))), (113, .aload_n 2, 1, 2, 0, 0, .null), (114, .aload_n 3, 1, 3, 0, 0, .null), (115, .aload 4, 2, 4, 0, 0, .null), (117, .aload 6, 2, 6, 0, 0, .null), (119, .aload 7, 2, 7, 0, 0, .null), (121, .aload 9, 2, 9, 0, 0, .null), (123, .aload 10, 2, 10, 0, 0, .null)] = true := by decide +kernel
theorem dc_L_law_125 : decode (AM.bytes M_L_law) 125 = .ok (.invokestatic 160, 3) := by decide +kernel
theorem dc_L_law_128 : decode (AM.bytes M_L_law) 128 = .ok (.ifCond .ne 5, 3) := by decide +kernel
theorem g_L_law_133_2 : ab_oks M_L_law [(133, .iconst 0, 1, 0, 0, 0, .int (nI (0))), (134, .istore 11, 2, 11, 0, 0, .null)] = true := by decide +kernel
set_option maxHeartbeats 4000000 in
set_option maxRecDepth 100000 in
theorem law_from {pg ph pc : Nat → Int32} {pm : Int32} {T K : Nat → Nat → Int32} {os sc : Int32} {tc tp : Nat → Int32} {tl tn trd tv tdg tf tla : Int32} {V S N B R A O st C z : Nat → Int32} {nv nc nr ne b : Nat} (hsl : sl ≤ 1000) (s : SS T os sc V S N B R A O st C z nv nc nr ne 0 b) (h4 : ph 4 = nI 0) : ∃ h', AR (EM l D cI old N0 0) M_L_law 11 87 [some (.ref 0), some (.ref 4096), some (.ref 16384), some (.ref 16385), some (.ref 16386), some (.ref 16387), some (.ref 16388), some (.ref 16389), some (.ref 16390), some (.ref 16391), some (.ref 16392), none, none, none, none] [] (hp (ol_ sx sl lsS gsS) (ar T K os sc) (te_ tc tp tl tn trd tv tdg tf tla) (pl pg ph pc pm) (la_ V S N B R A O st C) (xs_ []) (xs_ [])) (.inl (some (.int (nI (1))))) h' 1302 24955 := by
  obtain ⟨h, w, q, lx, h3, -⟩ := id s
  have htold := told_ok (E := (EM l D cI old N0 0)) (o0 := ol_ sx sl lsS gsS) (u0 := xs_ []) (l0 := xs_ []) (K := K) (os := os) (sc := sc) (tc := tc) (tp := tp) (tl_ := tl) (tn := tn) (trd := trd) (tv := tv) (tdg := tdg) (tf := tf) (tla := tla) (pg := pg) (ph := ph) (pc := pc) (pm := pm) 2 3 h w q h3 (by omega) (by omega)
  obtain ⟨T2, pg2, ph2, pc2, pm2, t2, f1, f2, f3, hah⟩ := ahead_T (l := l) (D := D) (cI := cI) (old := old) (N0 := N0) (sx := sx) (sl := sl) (K := K) (os := os) (sc := sc) (tc := tc) (tp := tp) (tl := tl) (tn := tn) (trd := trd) (tv := tv) (tdg := tdg) (tf := tf) (tla := tla) (pg := pg) (pc := pc) (pm := pm) (Tl := []) 5 h w q (by omega) h4 (by decide)
  obtain ⟨h', hc⟩ := law_loop (l := l) (D := D) (cI := cI) (old := old) (N0 := N0) (sx := sx) hsl 40 0 (by omega) (K := K) (tc := tc) (tp := tp) (tl := tl) (tn := tn) (trd := trd) (tv := tv) (tdg := tdg) (tf := tf) (tla := tla) (pg := pg2) (pc := pc2) (pm := pm2) (Tl := [] ++ t2) ⟨f1.rt h w.nv.2 w.nc.2, s.2⟩ f2 (by omega) (by omega) (by omega) (by omega) (by rw [List.nil_append]; omega)
  refine ⟨h', ?_⟩
  show AR _ _ _ _ _ _ _ _ _ (186 + 186 * (6 - 0 / 6)) (3565 + 3565 * (6 - 0 / 6))
  refine AR.run g_L_law_87_11 105 [some (.ref 0), some (.ref 4096), some (.ref 16384), some (.ref 16385), some (.ref 16386), some (.ref 16387), some (.ref 16388), some (.ref 16389), some (.ref 16390), some (.ref 16391), some (.ref 16392), none, none, none, none] [.ref 16392, .ref 16391, .ref 16390, .ref 16389, .ref 16388, .ref 16387, .ref 16386, .ref 16385, .ref 16384, .int (nI (3)), .ref 4096] _ [] rfl trivial ?_
  refine AR.callS1 [.ref 4096, .int (nI (3)), .ref 16384, .ref 16385, .ref 16386, .ref 16387, .ref 16388, .ref 16389, .ref 16390, .ref 16391, .ref 16392] [] lk_L_156 dc_L_law_105 (htold) (by first | rfl | (simp only [nI_add, pk_mul]; first | done | rfl)) rfl ?_
  refine AR.eqf (tgt := 131) dc_L_law_108 (by decide) (by decide) ?_
  refine AR.run g_L_law_111_9 125 [some (.ref 0), some (.ref 4096), some (.ref 16384), some (.ref 16385), some (.ref 16386), some (.ref 16387), some (.ref 16388), some (.ref 16389), some (.ref 16390), some (.ref 16391), some (.ref 16392), none, none, none, none] [.ref 16392, .ref 16391, .ref 16389, .ref 16388, .ref 16386, .ref 16385, .ref 16384, .int (nI (5)), .ref 4096] _ [] rfl trivial ?_
  refine AR.callS (rest := []) lk_L_160 dc_L_law_125 hah rfl rfl ?_
  refine AR.net (tgt := 133) dc_L_law_128 (by decide) (by decide) ?_
  refine AR.run g_L_law_133_2 136 [some (.ref 0), some (.ref 4096), some (.ref 16384), some (.ref 16385), some (.ref 16386), some (.ref 16387), some (.ref 16388), some (.ref 16389), some (.ref 16390), some (.ref 16391), some (.ref 16392), some (.int (nI (0))), none, none, none] [] _ [] rfl trivial ?_
  exact hc
end LOOP
