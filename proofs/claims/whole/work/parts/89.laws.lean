section LAWS
theorem lk_L_7 : ab_lkV "LeafCradlesLaw" 7 M_X4_addVolume 4 [525, 526, 527, 91, 528] = true := by decide +kernel
theorem g_L_addVolume_0 : ab_oks M_L_addVolume [(0, .aload 5, 2, 5, 0, 0, .null), (2, .iconst 0, 1, 0, 0, 0, .int (nI (0))), (3, .aload_n 0, 1, 0, 0, 0, .null), (4, .iload_n 1, 1, 1, 0, 0, .null), (5, .iload_n 2, 1, 2, 0, 0, .null), (6, .iload_n 3, 1, 3, 0, 0, .null), (7, .iload 4, 2, 4, 0, 0, .null)] = true := by decide +kernel
theorem g_L_addVolume_i : ab_oks M_L_addVolume [(12, .i2l, 1, 0, 0, 0, .null)] = true := by decide +kernel
theorem g_L_addVolume_e : ab_oks M_L_addVolume [(14, .goto 11, 3, 25, 0, 0, .null), (25, .iconst 0, 1, 0, 0, 0, .int (nI (0)))] = true := by decide +kernel
theorem dc_L_addVolume_9 : decode (AM.bytes M_L_addVolume) 9 = .ok (.invokevirtual 7, 3) := by decide +kernel
theorem ok_L_addVolume_13 : ab_ok M_L_addVolume (13, .lastore, 1, 0, 0, 0, .null) = true := by decide +kernel
theorem dc_L_addVolume_26 : decode (AM.bytes M_L_addVolume) 26 = .ok (.ireturn, 1) := by decide +kernel
theorem g_L_addVolume_h0 : ab_oks M_L_addVolume [(19, .iconst 1, 1, 0, 0, 0, .int (nI (1)))] = true := by decide +kernel
theorem dc_L_addVolume_17 : decode (AM.bytes M_L_addVolume) 17 = .ok (.astore 6, 2) := by decide +kernel
theorem dc_L_addVolume_20 : decode (AM.bytes M_L_addVolume) 20 = .ok (.ireturn, 1) := by decide +kernel
theorem g_L_addVolume_h1 : ab_oks M_L_addVolume [(23, .iconst 2, 1, 0, 0, 0, .int (nI (2)))] = true := by decide +kernel
theorem dc_L_addVolume_21 : decode (AM.bytes M_L_addVolume) 21 = .ok (.astore 6, 2) := by decide +kernel
theorem dc_L_addVolume_24 : decode (AM.bytes M_L_addVolume) 24 = .ok (.ireturn, 1) := by decide +kernel
set_option maxRecDepth 100000 in
theorem w_addVolume_O {E : AE} {d : Nat} {x0 : Int32} {x1 : Int32} {x2 : Int32} {x3 : Int32} {r : Int32} {o0 t0 p0 m0 l0 a1 t1 p1 : List AC} {T K : Nat → Nat → Int32} {os sc : Int32} {ov : Nat → Int64} (hX : CT E M_X4_addVolume d [.ref 4096, .int x0, .int x1, .int x2, .int x3] (hp o0 (ar T K os sc) t0 p0 m0 (ou ov) l0) (.inl (some (.int r))) (hp o0 a1 t1 p1 m0 (ou ov) l0) 0 0) : CT E M_L_addVolume (d + 1) [.ref 4096, .int x0, .int x1, .int x2, .int x3, .ref 20480] (hp o0 (ar T K os sc) t0 p0 m0 (ou ov) l0) (.inl (some (.int (nI 0)))) (hp o0 a1 t1 p1 m0 (ou (vp_updL ov 0 r.toInt64)) l0) 0 0 := by
  refine CT.of (L := [some (.ref 4096), some (.int x0), some (.int x1), some (.int x2), some (.int x3), some (.ref 20480), none]) rfl rfl ?_
  refine AR.run g_L_addVolume_0 9 [some (.ref 4096), some (.int x0), some (.int x1), some (.int x2), some (.int x3), some (.ref 20480), none] [.int x3, .int x2, .int x1, .int x0, .ref 4096, .int (nI (0)), .ref 20480] _ [] rfl trivial ?_
  refine AR.callV1 (4096) [.int x0, .int x1, .int x2, .int x3] [.int (nI (0)), .ref 20480] lk_L_7 dc_L_addVolume_9 rfl rfl hX rfl rfl ?_
  refine AR.run g_L_addVolume_i 13 [some (.ref 4096), some (.int x0), some (.int x1), some (.int x2), some (.int x3), some (.ref 20480), none] [.long (r.toInt64), .int (nI (0)), .ref 20480] _ [] rfl trivial ?_
  refine AR.last (n := 0) (e := 0) (h1 := (hp o0 a1 t1 p1 m0 (ou (vp_updL ov 0 r.toInt64)) l0)) ok_L_addVolume_13 rfl rfl rfl (by omega) (by decide) rfl ?_
  refine AR.run g_L_addVolume_e 26 [some (.ref 4096), some (.int x0), some (.int x1), some (.int x2), some (.int x3), some (.ref 20480), none] [.int (nI (0))] _ [] rfl trivial ?_
  exact AR.retI dc_L_addVolume_26 rfl rfl rfl
set_option maxRecDepth 100000 in
theorem w_addVolume_A {E : AE} {d : Nat} {x0 : Int32} {x1 : Int32} {x2 : Int32} {x3 : Int32} {o0 t0 p0 m0 l0 a1 t1 p1 : List AC} {T K : Nat → Nat → Int32} {os sc : Int32} {ov : Nat → Int64} (hX : CT E M_X4_addVolume d [.ref 4096, .int x0, .int x1, .int x2, .int x3] (hp o0 (ar T K os sc) t0 p0 m0 (ou ov) l0) (.inr "java/lang/IllegalArgumentException") (hp o0 a1 t1 p1 m0 (ou ov) l0) 1 6) : CT E M_L_addVolume (d + 1) [.ref 4096, .int x0, .int x1, .int x2, .int x3, .ref 20480] (hp o0 (ar T K os sc) t0 p0 m0 (ou ov) l0) (.inl (some (.int (nI 1)))) (hp o0 a1 t1 p1 m0 (ou ov) l0) 1 6 := by
  refine CT.of (L := [some (.ref 4096), some (.int x0), some (.int x1), some (.int x2), some (.int x3), some (.ref 20480), none]) rfl rfl ?_
  refine AR.run g_L_addVolume_0 9 [some (.ref 4096), some (.int x0), some (.int x1), some (.int x2), some (.int x3), some (.ref 20480), none] [.int x3, .int x2, .int x1, .int x0, .ref 4096, .int (nI (0)), .ref 20480] _ [] rfl trivial ?_
  refine AR.callVX (mc := 0) (ms := 0) (av := [.int x0, .int x1, .int x2, .int x3]) (rest := [.int (nI (0)), .ref 20480]) (q := 4096) lk_L_7 dc_L_addVolume_9 rfl rfl hX rfl rfl ?_
  refine ARX.catch (a := 6) (rs := []) (i9 := 523) [] ⟨0, 14, 17, 13⟩ [⟨0, 14, 21, 15⟩] rfl (by decide +kernel) (by decide) (by decide) (by decide +kernel) (by decide) (Or.inl dc_L_addVolume_17) (by decide) (tgt := 19) (Or.inl ⟨dc_L_addVolume_17, rfl⟩) ?_
  refine AR.run g_L_addVolume_h0 20 [some (.ref 4096), some (.int x0), some (.int x1), some (.int x2), some (.int x3), some (.ref 20480), none] [.int (nI (1))] _ [] rfl trivial ?_
  exact AR.retI dc_L_addVolume_20 rfl rfl rfl
set_option maxRecDepth 100000 in
theorem w_addVolume_S {E : AE} {d : Nat} {x0 : Int32} {x1 : Int32} {x2 : Int32} {x3 : Int32} {o0 t0 p0 m0 l0 a1 t1 p1 : List AC} {T K : Nat → Nat → Int32} {os sc : Int32} {ov : Nat → Int64} (hX : CT E M_X4_addVolume d [.ref 4096, .int x0, .int x1, .int x2, .int x3] (hp o0 (ar T K os sc) t0 p0 m0 (ou ov) l0) (.inr "java/lang/IllegalStateException") (hp o0 a1 t1 p1 m0 (ou ov) l0) 1 6) : CT E M_L_addVolume (d + 1) [.ref 4096, .int x0, .int x1, .int x2, .int x3, .ref 20480] (hp o0 (ar T K os sc) t0 p0 m0 (ou ov) l0) (.inl (some (.int (nI 2)))) (hp o0 a1 t1 p1 m0 (ou ov) l0) 1 6 := by
  refine CT.of (L := [some (.ref 4096), some (.int x0), some (.int x1), some (.int x2), some (.int x3), some (.ref 20480), none]) rfl rfl ?_
  refine AR.run g_L_addVolume_0 9 [some (.ref 4096), some (.int x0), some (.int x1), some (.int x2), some (.int x3), some (.ref 20480), none] [.int x3, .int x2, .int x1, .int x0, .ref 4096, .int (nI (0)), .ref 20480] _ [] rfl trivial ?_
  refine AR.callVX (mc := 0) (ms := 0) (av := [.int x0, .int x1, .int x2, .int x3]) (rest := [.int (nI (0)), .ref 20480]) (q := 4096) lk_L_7 dc_L_addVolume_9 rfl rfl hX rfl rfl ?_
  refine ARX.catch (a := 6) (rs := [(523, "java/lang/IllegalArgumentException")]) (i9 := 524) [⟨0, 14, 17, 13⟩] ⟨0, 14, 21, 15⟩ [] rfl (by decide +kernel) (by decide) (by decide) (by decide +kernel) (by decide) (Or.inl dc_L_addVolume_21) (by decide) (tgt := 23) (Or.inl ⟨dc_L_addVolume_21, rfl⟩) ?_
  refine AR.run g_L_addVolume_h1 24 [some (.ref 4096), some (.int x0), some (.int x1), some (.int x2), some (.int x3), some (.ref 20480), none] [.int (nI (2))] _ [] rfl trivial ?_
  exact AR.retI dc_L_addVolume_24 rfl rfl rfl
theorem lk_L_17 : ab_lkV "LeafCradlesLaw" 17 M_X4_addCradle 2 [635, 636, 637, 91, 638] = true := by decide +kernel
theorem g_L_addCradle_0 : ab_oks M_L_addCradle [(0, .aload_n 3, 1, 3, 0, 0, .null), (1, .iconst 0, 1, 0, 0, 0, .int (nI (0))), (2, .aload_n 0, 1, 0, 0, 0, .null), (3, .iload_n 1, 1, 1, 0, 0, .null), (4, .iload_n 2, 1, 2, 0, 0, .null)] = true := by decide +kernel
theorem g_L_addCradle_i : ab_oks M_L_addCradle [(8, .i2l, 1, 0, 0, 0, .null)] = true := by decide +kernel
theorem g_L_addCradle_e : ab_oks M_L_addCradle [(10, .goto 11, 3, 21, 0, 0, .null), (21, .iconst 0, 1, 0, 0, 0, .int (nI (0)))] = true := by decide +kernel
theorem dc_L_addCradle_5 : decode (AM.bytes M_L_addCradle) 5 = .ok (.invokevirtual 17, 3) := by decide +kernel
theorem ok_L_addCradle_9 : ab_ok M_L_addCradle (9, .lastore, 1, 0, 0, 0, .null) = true := by decide +kernel
theorem dc_L_addCradle_22 : decode (AM.bytes M_L_addCradle) 22 = .ok (.ireturn, 1) := by decide +kernel
theorem g_L_addCradle_h0 : ab_oks M_L_addCradle [(15, .iconst 1, 1, 0, 0, 0, .int (nI (1)))] = true := by decide +kernel
theorem dc_L_addCradle_13 : decode (AM.bytes M_L_addCradle) 13 = .ok (.astore 4, 2) := by decide +kernel
theorem dc_L_addCradle_16 : decode (AM.bytes M_L_addCradle) 16 = .ok (.ireturn, 1) := by decide +kernel
theorem g_L_addCradle_h1 : ab_oks M_L_addCradle [(19, .iconst 2, 1, 0, 0, 0, .int (nI (2)))] = true := by decide +kernel
theorem dc_L_addCradle_17 : decode (AM.bytes M_L_addCradle) 17 = .ok (.astore 4, 2) := by decide +kernel
theorem dc_L_addCradle_20 : decode (AM.bytes M_L_addCradle) 20 = .ok (.ireturn, 1) := by decide +kernel
set_option maxRecDepth 100000 in
theorem w_addCradle_O {E : AE} {d : Nat} {x0 : Int32} {x1 : Int32} {r : Int32} {o0 t0 p0 m0 l0 a1 t1 p1 : List AC} {T K : Nat → Nat → Int32} {os sc : Int32} {ov : Nat → Int64} (hX : CT E M_X4_addCradle d [.ref 4096, .int x0, .int x1] (hp o0 (ar T K os sc) t0 p0 m0 (ou ov) l0) (.inl (some (.int r))) (hp o0 a1 t1 p1 m0 (ou ov) l0) 0 0) : CT E M_L_addCradle (d + 1) [.ref 4096, .int x0, .int x1, .ref 20480] (hp o0 (ar T K os sc) t0 p0 m0 (ou ov) l0) (.inl (some (.int (nI 0)))) (hp o0 a1 t1 p1 m0 (ou (vp_updL ov 0 r.toInt64)) l0) 0 0 := by
  refine CT.of (L := [some (.ref 4096), some (.int x0), some (.int x1), some (.ref 20480), none]) rfl rfl ?_
  refine AR.run g_L_addCradle_0 5 [some (.ref 4096), some (.int x0), some (.int x1), some (.ref 20480), none] [.int x1, .int x0, .ref 4096, .int (nI (0)), .ref 20480] _ [] rfl trivial ?_
  refine AR.callV1 (4096) [.int x0, .int x1] [.int (nI (0)), .ref 20480] lk_L_17 dc_L_addCradle_5 rfl rfl hX rfl rfl ?_
  refine AR.run g_L_addCradle_i 9 [some (.ref 4096), some (.int x0), some (.int x1), some (.ref 20480), none] [.long (r.toInt64), .int (nI (0)), .ref 20480] _ [] rfl trivial ?_
  refine AR.last (n := 0) (e := 0) (h1 := (hp o0 a1 t1 p1 m0 (ou (vp_updL ov 0 r.toInt64)) l0)) ok_L_addCradle_9 rfl rfl rfl (by omega) (by decide) rfl ?_
  refine AR.run g_L_addCradle_e 22 [some (.ref 4096), some (.int x0), some (.int x1), some (.ref 20480), none] [.int (nI (0))] _ [] rfl trivial ?_
  exact AR.retI dc_L_addCradle_22 rfl rfl rfl
set_option maxRecDepth 100000 in
theorem w_addCradle_A {E : AE} {d : Nat} {x0 : Int32} {x1 : Int32} {o0 t0 p0 m0 l0 a1 t1 p1 : List AC} {T K : Nat → Nat → Int32} {os sc : Int32} {ov : Nat → Int64} (hX : CT E M_X4_addCradle d [.ref 4096, .int x0, .int x1] (hp o0 (ar T K os sc) t0 p0 m0 (ou ov) l0) (.inr "java/lang/IllegalArgumentException") (hp o0 a1 t1 p1 m0 (ou ov) l0) 1 6) : CT E M_L_addCradle (d + 1) [.ref 4096, .int x0, .int x1, .ref 20480] (hp o0 (ar T K os sc) t0 p0 m0 (ou ov) l0) (.inl (some (.int (nI 1)))) (hp o0 a1 t1 p1 m0 (ou ov) l0) 1 6 := by
  refine CT.of (L := [some (.ref 4096), some (.int x0), some (.int x1), some (.ref 20480), none]) rfl rfl ?_
  refine AR.run g_L_addCradle_0 5 [some (.ref 4096), some (.int x0), some (.int x1), some (.ref 20480), none] [.int x1, .int x0, .ref 4096, .int (nI (0)), .ref 20480] _ [] rfl trivial ?_
  refine AR.callVX (mc := 0) (ms := 0) (av := [.int x0, .int x1]) (rest := [.int (nI (0)), .ref 20480]) (q := 4096) lk_L_17 dc_L_addCradle_5 rfl rfl hX rfl rfl ?_
  refine ARX.catch (a := 4) (rs := []) (i9 := 523) [] ⟨0, 10, 13, 13⟩ [⟨0, 10, 17, 15⟩] rfl (by decide +kernel) (by decide) (by decide) (by decide +kernel) (by decide) (Or.inl dc_L_addCradle_13) (by decide) (tgt := 15) (Or.inl ⟨dc_L_addCradle_13, rfl⟩) ?_
  refine AR.run g_L_addCradle_h0 16 [some (.ref 4096), some (.int x0), some (.int x1), some (.ref 20480), none] [.int (nI (1))] _ [] rfl trivial ?_
  exact AR.retI dc_L_addCradle_16 rfl rfl rfl
set_option maxRecDepth 100000 in
theorem w_addCradle_S {E : AE} {d : Nat} {x0 : Int32} {x1 : Int32} {o0 t0 p0 m0 l0 a1 t1 p1 : List AC} {T K : Nat → Nat → Int32} {os sc : Int32} {ov : Nat → Int64} (hX : CT E M_X4_addCradle d [.ref 4096, .int x0, .int x1] (hp o0 (ar T K os sc) t0 p0 m0 (ou ov) l0) (.inr "java/lang/IllegalStateException") (hp o0 a1 t1 p1 m0 (ou ov) l0) 1 6) : CT E M_L_addCradle (d + 1) [.ref 4096, .int x0, .int x1, .ref 20480] (hp o0 (ar T K os sc) t0 p0 m0 (ou ov) l0) (.inl (some (.int (nI 2)))) (hp o0 a1 t1 p1 m0 (ou ov) l0) 1 6 := by
  refine CT.of (L := [some (.ref 4096), some (.int x0), some (.int x1), some (.ref 20480), none]) rfl rfl ?_
  refine AR.run g_L_addCradle_0 5 [some (.ref 4096), some (.int x0), some (.int x1), some (.ref 20480), none] [.int x1, .int x0, .ref 4096, .int (nI (0)), .ref 20480] _ [] rfl trivial ?_
  refine AR.callVX (mc := 0) (ms := 0) (av := [.int x0, .int x1]) (rest := [.int (nI (0)), .ref 20480]) (q := 4096) lk_L_17 dc_L_addCradle_5 rfl rfl hX rfl rfl ?_
  refine ARX.catch (a := 4) (rs := [(523, "java/lang/IllegalArgumentException")]) (i9 := 524) [⟨0, 10, 13, 13⟩] ⟨0, 10, 17, 15⟩ [] rfl (by decide +kernel) (by decide) (by decide) (by decide +kernel) (by decide) (Or.inl dc_L_addCradle_17) (by decide) (tgt := 19) (Or.inl ⟨dc_L_addCradle_17, rfl⟩) ?_
  refine AR.run g_L_addCradle_h1 20 [some (.ref 4096), some (.int x0), some (.int x1), some (.ref 20480), none] [.int (nI (2))] _ [] rfl trivial ?_
  exact AR.retI dc_L_addCradle_20 rfl rfl rfl
theorem lk_L_21 : ab_lkV "LeafCradlesLaw" 21 M_X4_addCarrier 0 [647, 648, 649, 91, 650] = true := by decide +kernel
theorem g_L_addCarrier_0 : ab_oks M_L_addCarrier [(0, .aload_n 1, 1, 1, 0, 0, .null), (1, .iconst 0, 1, 0, 0, 0, .int (nI (0))), (2, .aload_n 0, 1, 0, 0, 0, .null)] = true := by decide +kernel
theorem g_L_addCarrier_i : ab_oks M_L_addCarrier [(6, .i2l, 1, 0, 0, 0, .null)] = true := by decide +kernel
theorem g_L_addCarrier_e : ab_oks M_L_addCarrier [(8, .goto 6, 3, 14, 0, 0, .null), (14, .iconst 0, 1, 0, 0, 0, .int (nI (0)))] = true := by decide +kernel
theorem dc_L_addCarrier_3 : decode (AM.bytes M_L_addCarrier) 3 = .ok (.invokevirtual 21, 3) := by decide +kernel
theorem ok_L_addCarrier_7 : ab_ok M_L_addCarrier (7, .lastore, 1, 0, 0, 0, .null) = true := by decide +kernel
theorem dc_L_addCarrier_15 : decode (AM.bytes M_L_addCarrier) 15 = .ok (.ireturn, 1) := by decide +kernel
theorem g_L_addCarrier_h0 : ab_oks M_L_addCarrier [(12, .iconst 1, 1, 0, 0, 0, .int (nI (1)))] = true := by decide +kernel
theorem dc_L_addCarrier_11 : decode (AM.bytes M_L_addCarrier) 11 = .ok (.astore_n 2, 1) := by decide +kernel
theorem dc_L_addCarrier_13 : decode (AM.bytes M_L_addCarrier) 13 = .ok (.ireturn, 1) := by decide +kernel
set_option maxRecDepth 100000 in
theorem w_addCarrier_O {E : AE} {d : Nat} {r : Int32} {o0 t0 p0 m0 l0 a1 t1 p1 : List AC} {T K : Nat → Nat → Int32} {os sc : Int32} {ov : Nat → Int64} (hX : CT E M_X4_addCarrier d [.ref 4096] (hp o0 (ar T K os sc) t0 p0 m0 (ou ov) l0) (.inl (some (.int r))) (hp o0 a1 t1 p1 m0 (ou ov) l0) 0 0) : CT E M_L_addCarrier (d + 1) [.ref 4096, .ref 20480] (hp o0 (ar T K os sc) t0 p0 m0 (ou ov) l0) (.inl (some (.int (nI 0)))) (hp o0 a1 t1 p1 m0 (ou (vp_updL ov 0 r.toInt64)) l0) 0 0 := by
  refine CT.of (L := [some (.ref 4096), some (.ref 20480), none]) rfl rfl ?_
  refine AR.run g_L_addCarrier_0 3 [some (.ref 4096), some (.ref 20480), none] [.ref 4096, .int (nI (0)), .ref 20480] _ [] rfl trivial ?_
  refine AR.callV1 (4096) [] [.int (nI (0)), .ref 20480] lk_L_21 dc_L_addCarrier_3 rfl rfl hX rfl rfl ?_
  refine AR.run g_L_addCarrier_i 7 [some (.ref 4096), some (.ref 20480), none] [.long (r.toInt64), .int (nI (0)), .ref 20480] _ [] rfl trivial ?_
  refine AR.last (n := 0) (e := 0) (h1 := (hp o0 a1 t1 p1 m0 (ou (vp_updL ov 0 r.toInt64)) l0)) ok_L_addCarrier_7 rfl rfl rfl (by omega) (by decide) rfl ?_
  refine AR.run g_L_addCarrier_e 15 [some (.ref 4096), some (.ref 20480), none] [.int (nI (0))] _ [] rfl trivial ?_
  exact AR.retI dc_L_addCarrier_15 rfl rfl rfl
set_option maxRecDepth 100000 in
theorem w_addCarrier_S {E : AE} {d : Nat} {o0 t0 p0 m0 l0 a1 t1 p1 : List AC} {T K : Nat → Nat → Int32} {os sc : Int32} {ov : Nat → Int64} (hX : CT E M_X4_addCarrier d [.ref 4096] (hp o0 (ar T K os sc) t0 p0 m0 (ou ov) l0) (.inr "java/lang/IllegalStateException") (hp o0 a1 t1 p1 m0 (ou ov) l0) 1 6) : CT E M_L_addCarrier (d + 1) [.ref 4096, .ref 20480] (hp o0 (ar T K os sc) t0 p0 m0 (ou ov) l0) (.inl (some (.int (nI 1)))) (hp o0 a1 t1 p1 m0 (ou ov) l0) 1 6 := by
  refine CT.of (L := [some (.ref 4096), some (.ref 20480), none]) rfl rfl ?_
  refine AR.run g_L_addCarrier_0 3 [some (.ref 4096), some (.ref 20480), none] [.ref 4096, .int (nI (0)), .ref 20480] _ [] rfl trivial ?_
  refine AR.callVX (mc := 0) (ms := 0) (av := []) (rest := [.int (nI (0)), .ref 20480]) (q := 4096) lk_L_21 dc_L_addCarrier_3 rfl rfl hX rfl rfl ?_
  refine ARX.catch (a := 2) (rs := []) (i9 := 524) [] ⟨0, 8, 11, 15⟩ [] rfl (by decide +kernel) (by decide) (by decide) (by decide +kernel) (by decide) (Or.inr ⟨⟨2, by omega⟩, rfl, dc_L_addCarrier_11⟩) (by decide) (tgt := 12) (Or.inr ⟨⟨⟨2, by omega⟩, rfl, dc_L_addCarrier_11⟩, rfl⟩) ?_
  refine AR.run g_L_addCarrier_h0 13 [some (.ref 4096), some (.ref 20480), none] [.int (nI (1))] _ [] rfl trivial ?_
  exact AR.retI dc_L_addCarrier_13 rfl rfl rfl
theorem lk_L_25 : ab_lkV "LeafCradlesLaw" 25 M_X4_set 2 [660, 661, 662, 91, 663] = true := by decide +kernel
theorem g_L_set_0 : ab_oks M_L_set [(0, .aload_n 3, 1, 3, 0, 0, .null), (1, .iconst 0, 1, 0, 0, 0, .int (nI (0))), (2, .aload_n 0, 1, 0, 0, 0, .null), (3, .iload_n 1, 1, 1, 0, 0, .null), (4, .iload_n 2, 1, 2, 0, 0, .null)] = true := by decide +kernel
theorem g_L_set_i : ab_oks M_L_set [(8, .i2l, 1, 0, 0, 0, .null)] = true := by decide +kernel
theorem g_L_set_e : ab_oks M_L_set [(10, .goto 11, 3, 21, 0, 0, .null), (21, .iconst 0, 1, 0, 0, 0, .int (nI (0)))] = true := by decide +kernel
theorem dc_L_set_5 : decode (AM.bytes M_L_set) 5 = .ok (.invokevirtual 25, 3) := by decide +kernel
theorem ok_L_set_9 : ab_ok M_L_set (9, .lastore, 1, 0, 0, 0, .null) = true := by decide +kernel
theorem dc_L_set_22 : decode (AM.bytes M_L_set) 22 = .ok (.ireturn, 1) := by decide +kernel
theorem g_L_set_h0 : ab_oks M_L_set [(15, .iconst 1, 1, 0, 0, 0, .int (nI (1)))] = true := by decide +kernel
theorem dc_L_set_13 : decode (AM.bytes M_L_set) 13 = .ok (.astore 4, 2) := by decide +kernel
theorem dc_L_set_16 : decode (AM.bytes M_L_set) 16 = .ok (.ireturn, 1) := by decide +kernel
theorem g_L_set_h1 : ab_oks M_L_set [(19, .iconst 2, 1, 0, 0, 0, .int (nI (2)))] = true := by decide +kernel
theorem dc_L_set_17 : decode (AM.bytes M_L_set) 17 = .ok (.astore 4, 2) := by decide +kernel
theorem dc_L_set_20 : decode (AM.bytes M_L_set) 20 = .ok (.ireturn, 1) := by decide +kernel
set_option maxRecDepth 100000 in
theorem w_set_O {E : AE} {d : Nat} {x0 : Int32} {x1 : Int32} {r : Int32} {o0 t0 p0 m0 l0 a1 t1 p1 : List AC} {T K : Nat → Nat → Int32} {os sc : Int32} {ov : Nat → Int64} (hX : CT E M_X4_set d [.ref 4096, .int x0, .int x1] (hp o0 (ar T K os sc) t0 p0 m0 (ou ov) l0) (.inl (some (.int r))) (hp o0 a1 t1 p1 m0 (ou ov) l0) 0 0) : CT E M_L_set (d + 1) [.ref 4096, .int x0, .int x1, .ref 20480] (hp o0 (ar T K os sc) t0 p0 m0 (ou ov) l0) (.inl (some (.int (nI 0)))) (hp o0 a1 t1 p1 m0 (ou (vp_updL ov 0 r.toInt64)) l0) 0 0 := by
  refine CT.of (L := [some (.ref 4096), some (.int x0), some (.int x1), some (.ref 20480), none]) rfl rfl ?_
  refine AR.run g_L_set_0 5 [some (.ref 4096), some (.int x0), some (.int x1), some (.ref 20480), none] [.int x1, .int x0, .ref 4096, .int (nI (0)), .ref 20480] _ [] rfl trivial ?_
  refine AR.callV1 (4096) [.int x0, .int x1] [.int (nI (0)), .ref 20480] lk_L_25 dc_L_set_5 rfl rfl hX rfl rfl ?_
  refine AR.run g_L_set_i 9 [some (.ref 4096), some (.int x0), some (.int x1), some (.ref 20480), none] [.long (r.toInt64), .int (nI (0)), .ref 20480] _ [] rfl trivial ?_
  refine AR.last (n := 0) (e := 0) (h1 := (hp o0 a1 t1 p1 m0 (ou (vp_updL ov 0 r.toInt64)) l0)) ok_L_set_9 rfl rfl rfl (by omega) (by decide) rfl ?_
  refine AR.run g_L_set_e 22 [some (.ref 4096), some (.int x0), some (.int x1), some (.ref 20480), none] [.int (nI (0))] _ [] rfl trivial ?_
  exact AR.retI dc_L_set_22 rfl rfl rfl
set_option maxRecDepth 100000 in
theorem w_set_X {E : AE} {d : Nat} {x0 : Int32} {x1 : Int32} {o0 t0 p0 m0 l0 a1 t1 p1 : List AC} {T K : Nat → Nat → Int32} {os sc : Int32} {ov : Nat → Int64} (hX : CT E M_X4_set d [.ref 4096, .int x0, .int x1] (hp o0 (ar T K os sc) t0 p0 m0 (ou ov) l0) (.inr "java/lang/IndexOutOfBoundsException") (hp o0 a1 t1 p1 m0 (ou ov) l0) 1 6) : CT E M_L_set (d + 1) [.ref 4096, .int x0, .int x1, .ref 20480] (hp o0 (ar T K os sc) t0 p0 m0 (ou ov) l0) (.inl (some (.int (nI 1)))) (hp o0 a1 t1 p1 m0 (ou ov) l0) 1 6 := by
  refine CT.of (L := [some (.ref 4096), some (.int x0), some (.int x1), some (.ref 20480), none]) rfl rfl ?_
  refine AR.run g_L_set_0 5 [some (.ref 4096), some (.int x0), some (.int x1), some (.ref 20480), none] [.int x1, .int x0, .ref 4096, .int (nI (0)), .ref 20480] _ [] rfl trivial ?_
  refine AR.callVX (mc := 0) (ms := 0) (av := [.int x0, .int x1]) (rest := [.int (nI (0)), .ref 20480]) (q := 4096) lk_L_25 dc_L_set_5 rfl rfl hX rfl rfl ?_
  refine ARX.catch (a := 4) (rs := []) (i9 := 659) [] ⟨0, 10, 13, 28⟩ [⟨0, 10, 17, 13⟩] rfl (by decide +kernel) (by decide) (by decide) (by decide +kernel) (by decide) (Or.inl dc_L_set_13) (by decide) (tgt := 15) (Or.inl ⟨dc_L_set_13, rfl⟩) ?_
  refine AR.run g_L_set_h0 16 [some (.ref 4096), some (.int x0), some (.int x1), some (.ref 20480), none] [.int (nI (1))] _ [] rfl trivial ?_
  exact AR.retI dc_L_set_16 rfl rfl rfl
set_option maxRecDepth 100000 in
theorem w_set_A {E : AE} {d : Nat} {x0 : Int32} {x1 : Int32} {o0 t0 p0 m0 l0 a1 t1 p1 : List AC} {T K : Nat → Nat → Int32} {os sc : Int32} {ov : Nat → Int64} (hX : CT E M_X4_set d [.ref 4096, .int x0, .int x1] (hp o0 (ar T K os sc) t0 p0 m0 (ou ov) l0) (.inr "java/lang/IllegalArgumentException") (hp o0 a1 t1 p1 m0 (ou ov) l0) 1 6) : CT E M_L_set (d + 1) [.ref 4096, .int x0, .int x1, .ref 20480] (hp o0 (ar T K os sc) t0 p0 m0 (ou ov) l0) (.inl (some (.int (nI 2)))) (hp o0 a1 t1 p1 m0 (ou ov) l0) 1 6 := by
  refine CT.of (L := [some (.ref 4096), some (.int x0), some (.int x1), some (.ref 20480), none]) rfl rfl ?_
  refine AR.run g_L_set_0 5 [some (.ref 4096), some (.int x0), some (.int x1), some (.ref 20480), none] [.int x1, .int x0, .ref 4096, .int (nI (0)), .ref 20480] _ [] rfl trivial ?_
  refine AR.callVX (mc := 0) (ms := 0) (av := [.int x0, .int x1]) (rest := [.int (nI (0)), .ref 20480]) (q := 4096) lk_L_25 dc_L_set_5 rfl rfl hX rfl rfl ?_
  refine ARX.catch (a := 4) (rs := [(659, "java/lang/IndexOutOfBoundsException")]) (i9 := 523) [⟨0, 10, 13, 28⟩] ⟨0, 10, 17, 13⟩ [] rfl (by decide +kernel) (by decide) (by decide) (by decide +kernel) (by decide) (Or.inl dc_L_set_17) (by decide) (tgt := 19) (Or.inl ⟨dc_L_set_17, rfl⟩) ?_
  refine AR.run g_L_set_h1 20 [some (.ref 4096), some (.int x0), some (.int x1), some (.ref 20480), none] [.int (nI (2))] _ [] rfl trivial ?_
  exact AR.retI dc_L_set_20 rfl rfl rfl
theorem lk_L_30 : ab_lkV "LeafCradlesLaw" 30 M_X4_setYear 1 [700, 701, 702, 91, 703] = true := by decide +kernel
theorem g_L_setYear_0 : ab_oks M_L_setYear [(0, .aload_n 2, 1, 2, 0, 0, .null), (1, .iconst 0, 1, 0, 0, 0, .int (nI (0))), (2, .aload_n 0, 1, 0, 0, 0, .null), (3, .iload_n 1, 1, 1, 0, 0, .null)] = true := by decide +kernel
theorem g_L_setYear_i : ab_oks M_L_setYear [(7, .i2l, 1, 0, 0, 0, .null)] = true := by decide +kernel
theorem g_L_setYear_e : ab_oks M_L_setYear [(9, .goto 6, 3, 15, 0, 0, .null), (15, .iconst 0, 1, 0, 0, 0, .int (nI (0)))] = true := by decide +kernel
theorem dc_L_setYear_4 : decode (AM.bytes M_L_setYear) 4 = .ok (.invokevirtual 30, 3) := by decide +kernel
theorem ok_L_setYear_8 : ab_ok M_L_setYear (8, .lastore, 1, 0, 0, 0, .null) = true := by decide +kernel
theorem dc_L_setYear_16 : decode (AM.bytes M_L_setYear) 16 = .ok (.ireturn, 1) := by decide +kernel
theorem g_L_setYear_h0 : ab_oks M_L_setYear [(13, .iconst 1, 1, 0, 0, 0, .int (nI (1)))] = true := by decide +kernel
theorem dc_L_setYear_12 : decode (AM.bytes M_L_setYear) 12 = .ok (.astore_n 3, 1) := by decide +kernel
theorem dc_L_setYear_14 : decode (AM.bytes M_L_setYear) 14 = .ok (.ireturn, 1) := by decide +kernel
set_option maxRecDepth 100000 in
theorem w_setYear_O {E : AE} {d : Nat} {x0 : Int32} {r : Int32} {o0 t0 p0 m0 l0 a1 t1 p1 : List AC} {T K : Nat → Nat → Int32} {os sc : Int32} {ov : Nat → Int64} (hX : CT E M_X4_setYear d [.ref 4096, .int x0] (hp o0 (ar T K os sc) t0 p0 m0 (ou ov) l0) (.inl (some (.int r))) (hp o0 a1 t1 p1 m0 (ou ov) l0) 0 0) : CT E M_L_setYear (d + 1) [.ref 4096, .int x0, .ref 20480] (hp o0 (ar T K os sc) t0 p0 m0 (ou ov) l0) (.inl (some (.int (nI 0)))) (hp o0 a1 t1 p1 m0 (ou (vp_updL ov 0 r.toInt64)) l0) 0 0 := by
  refine CT.of (L := [some (.ref 4096), some (.int x0), some (.ref 20480), none]) rfl rfl ?_
  refine AR.run g_L_setYear_0 4 [some (.ref 4096), some (.int x0), some (.ref 20480), none] [.int x0, .ref 4096, .int (nI (0)), .ref 20480] _ [] rfl trivial ?_
  refine AR.callV1 (4096) [.int x0] [.int (nI (0)), .ref 20480] lk_L_30 dc_L_setYear_4 rfl rfl hX rfl rfl ?_
  refine AR.run g_L_setYear_i 8 [some (.ref 4096), some (.int x0), some (.ref 20480), none] [.long (r.toInt64), .int (nI (0)), .ref 20480] _ [] rfl trivial ?_
  refine AR.last (n := 0) (e := 0) (h1 := (hp o0 a1 t1 p1 m0 (ou (vp_updL ov 0 r.toInt64)) l0)) ok_L_setYear_8 rfl rfl rfl (by omega) (by decide) rfl ?_
  refine AR.run g_L_setYear_e 16 [some (.ref 4096), some (.int x0), some (.ref 20480), none] [.int (nI (0))] _ [] rfl trivial ?_
  exact AR.retI dc_L_setYear_16 rfl rfl rfl
set_option maxRecDepth 100000 in
theorem w_setYear_A {E : AE} {d : Nat} {x0 : Int32} {o0 t0 p0 m0 l0 a1 t1 p1 : List AC} {T K : Nat → Nat → Int32} {os sc : Int32} {ov : Nat → Int64} (hX : CT E M_X4_setYear d [.ref 4096, .int x0] (hp o0 (ar T K os sc) t0 p0 m0 (ou ov) l0) (.inr "java/lang/IllegalArgumentException") (hp o0 a1 t1 p1 m0 (ou ov) l0) 1 6) : CT E M_L_setYear (d + 1) [.ref 4096, .int x0, .ref 20480] (hp o0 (ar T K os sc) t0 p0 m0 (ou ov) l0) (.inl (some (.int (nI 1)))) (hp o0 a1 t1 p1 m0 (ou ov) l0) 1 6 := by
  refine CT.of (L := [some (.ref 4096), some (.int x0), some (.ref 20480), none]) rfl rfl ?_
  refine AR.run g_L_setYear_0 4 [some (.ref 4096), some (.int x0), some (.ref 20480), none] [.int x0, .ref 4096, .int (nI (0)), .ref 20480] _ [] rfl trivial ?_
  refine AR.callVX (mc := 0) (ms := 0) (av := [.int x0]) (rest := [.int (nI (0)), .ref 20480]) (q := 4096) lk_L_30 dc_L_setYear_4 rfl rfl hX rfl rfl ?_
  refine ARX.catch (a := 3) (rs := []) (i9 := 523) [] ⟨0, 9, 12, 13⟩ [] rfl (by decide +kernel) (by decide) (by decide) (by decide +kernel) (by decide) (Or.inr ⟨⟨3, by omega⟩, rfl, dc_L_setYear_12⟩) (by decide) (tgt := 13) (Or.inr ⟨⟨⟨3, by omega⟩, rfl, dc_L_setYear_12⟩, rfl⟩) ?_
  refine AR.run g_L_setYear_h0 14 [some (.ref 4096), some (.int x0), some (.ref 20480), none] [.int (nI (1))] _ [] rfl trivial ?_
  exact AR.retI dc_L_setYear_14 rfl rfl rfl
theorem lk_L_34 : ab_lkV "LeafCradlesLaw" 34 M_X4_bring 3 [707, 708, 709, 91, 710] = true := by decide +kernel
theorem g_L_bring_0 : ab_oks M_L_bring [(0, .aload 4, 2, 4, 0, 0, .null), (2, .iconst 0, 1, 0, 0, 0, .int (nI (0))), (3, .aload_n 0, 1, 0, 0, 0, .null), (4, .iload_n 1, 1, 1, 0, 0, .null), (5, .iload_n 2, 1, 2, 0, 0, .null), (6, .iload_n 3, 1, 3, 0, 0, .null)] = true := by decide +kernel
theorem g_L_bring_i : ab_oks M_L_bring [(10, .i2l, 1, 0, 0, 0, .null)] = true := by decide +kernel
theorem g_L_bring_e : ab_oks M_L_bring [(12, .goto 11, 3, 23, 0, 0, .null), (23, .iconst 0, 1, 0, 0, 0, .int (nI (0)))] = true := by decide +kernel
theorem dc_L_bring_7 : decode (AM.bytes M_L_bring) 7 = .ok (.invokevirtual 34, 3) := by decide +kernel
theorem ok_L_bring_11 : ab_ok M_L_bring (11, .lastore, 1, 0, 0, 0, .null) = true := by decide +kernel
theorem dc_L_bring_24 : decode (AM.bytes M_L_bring) 24 = .ok (.ireturn, 1) := by decide +kernel
theorem g_L_bring_h0 : ab_oks M_L_bring [(17, .iconst 1, 1, 0, 0, 0, .int (nI (1)))] = true := by decide +kernel
theorem dc_L_bring_15 : decode (AM.bytes M_L_bring) 15 = .ok (.astore 5, 2) := by decide +kernel
theorem dc_L_bring_18 : decode (AM.bytes M_L_bring) 18 = .ok (.ireturn, 1) := by decide +kernel
theorem g_L_bring_h1 : ab_oks M_L_bring [(21, .iconst 2, 1, 0, 0, 0, .int (nI (2)))] = true := by decide +kernel
theorem dc_L_bring_19 : decode (AM.bytes M_L_bring) 19 = .ok (.astore 5, 2) := by decide +kernel
theorem dc_L_bring_22 : decode (AM.bytes M_L_bring) 22 = .ok (.ireturn, 1) := by decide +kernel
set_option maxRecDepth 100000 in
theorem w_bring_O {E : AE} {d : Nat} {x0 : Int32} {x1 : Int32} {x2 : Int32} {r : Int32} {o0 t0 p0 m0 l0 a1 t1 p1 : List AC} {T K : Nat → Nat → Int32} {os sc : Int32} {ov : Nat → Int64} (hX : CT E M_X4_bring d [.ref 4096, .int x0, .int x1, .int x2] (hp o0 (ar T K os sc) t0 p0 m0 (ou ov) l0) (.inl (some (.int r))) (hp o0 a1 t1 p1 m0 (ou ov) l0) 0 0) : CT E M_L_bring (d + 1) [.ref 4096, .int x0, .int x1, .int x2, .ref 20480] (hp o0 (ar T K os sc) t0 p0 m0 (ou ov) l0) (.inl (some (.int (nI 0)))) (hp o0 a1 t1 p1 m0 (ou (vp_updL ov 0 r.toInt64)) l0) 0 0 := by
  refine CT.of (L := [some (.ref 4096), some (.int x0), some (.int x1), some (.int x2), some (.ref 20480), none]) rfl rfl ?_
  refine AR.run g_L_bring_0 7 [some (.ref 4096), some (.int x0), some (.int x1), some (.int x2), some (.ref 20480), none] [.int x2, .int x1, .int x0, .ref 4096, .int (nI (0)), .ref 20480] _ [] rfl trivial ?_
  refine AR.callV1 (4096) [.int x0, .int x1, .int x2] [.int (nI (0)), .ref 20480] lk_L_34 dc_L_bring_7 rfl rfl hX rfl rfl ?_
  refine AR.run g_L_bring_i 11 [some (.ref 4096), some (.int x0), some (.int x1), some (.int x2), some (.ref 20480), none] [.long (r.toInt64), .int (nI (0)), .ref 20480] _ [] rfl trivial ?_
  refine AR.last (n := 0) (e := 0) (h1 := (hp o0 a1 t1 p1 m0 (ou (vp_updL ov 0 r.toInt64)) l0)) ok_L_bring_11 rfl rfl rfl (by omega) (by decide) rfl ?_
  refine AR.run g_L_bring_e 24 [some (.ref 4096), some (.int x0), some (.int x1), some (.int x2), some (.ref 20480), none] [.int (nI (0))] _ [] rfl trivial ?_
  exact AR.retI dc_L_bring_24 rfl rfl rfl
set_option maxRecDepth 100000 in
theorem w_bring_X {E : AE} {d : Nat} {x0 : Int32} {x1 : Int32} {x2 : Int32} {o0 t0 p0 m0 l0 a1 t1 p1 : List AC} {T K : Nat → Nat → Int32} {os sc : Int32} {ov : Nat → Int64} (hX : CT E M_X4_bring d [.ref 4096, .int x0, .int x1, .int x2] (hp o0 (ar T K os sc) t0 p0 m0 (ou ov) l0) (.inr "java/lang/IndexOutOfBoundsException") (hp o0 a1 t1 p1 m0 (ou ov) l0) 1 6) : CT E M_L_bring (d + 1) [.ref 4096, .int x0, .int x1, .int x2, .ref 20480] (hp o0 (ar T K os sc) t0 p0 m0 (ou ov) l0) (.inl (some (.int (nI 1)))) (hp o0 a1 t1 p1 m0 (ou ov) l0) 1 6 := by
  refine CT.of (L := [some (.ref 4096), some (.int x0), some (.int x1), some (.int x2), some (.ref 20480), none]) rfl rfl ?_
  refine AR.run g_L_bring_0 7 [some (.ref 4096), some (.int x0), some (.int x1), some (.int x2), some (.ref 20480), none] [.int x2, .int x1, .int x0, .ref 4096, .int (nI (0)), .ref 20480] _ [] rfl trivial ?_
  refine AR.callVX (mc := 0) (ms := 0) (av := [.int x0, .int x1, .int x2]) (rest := [.int (nI (0)), .ref 20480]) (q := 4096) lk_L_34 dc_L_bring_7 rfl rfl hX rfl rfl ?_
  refine ARX.catch (a := 5) (rs := []) (i9 := 659) [] ⟨0, 12, 15, 28⟩ [⟨0, 12, 19, 15⟩] rfl (by decide +kernel) (by decide) (by decide) (by decide +kernel) (by decide) (Or.inl dc_L_bring_15) (by decide) (tgt := 17) (Or.inl ⟨dc_L_bring_15, rfl⟩) ?_
  refine AR.run g_L_bring_h0 18 [some (.ref 4096), some (.int x0), some (.int x1), some (.int x2), some (.ref 20480), none] [.int (nI (1))] _ [] rfl trivial ?_
  exact AR.retI dc_L_bring_18 rfl rfl rfl
set_option maxRecDepth 100000 in
theorem w_bring_S {E : AE} {d : Nat} {x0 : Int32} {x1 : Int32} {x2 : Int32} {o0 t0 p0 m0 l0 a1 t1 p1 : List AC} {T K : Nat → Nat → Int32} {os sc : Int32} {ov : Nat → Int64} (hX : CT E M_X4_bring d [.ref 4096, .int x0, .int x1, .int x2] (hp o0 (ar T K os sc) t0 p0 m0 (ou ov) l0) (.inr "java/lang/IllegalStateException") (hp o0 a1 t1 p1 m0 (ou ov) l0) 1 6) : CT E M_L_bring (d + 1) [.ref 4096, .int x0, .int x1, .int x2, .ref 20480] (hp o0 (ar T K os sc) t0 p0 m0 (ou ov) l0) (.inl (some (.int (nI 2)))) (hp o0 a1 t1 p1 m0 (ou ov) l0) 1 6 := by
  refine CT.of (L := [some (.ref 4096), some (.int x0), some (.int x1), some (.int x2), some (.ref 20480), none]) rfl rfl ?_
  refine AR.run g_L_bring_0 7 [some (.ref 4096), some (.int x0), some (.int x1), some (.int x2), some (.ref 20480), none] [.int x2, .int x1, .int x0, .ref 4096, .int (nI (0)), .ref 20480] _ [] rfl trivial ?_
  refine AR.callVX (mc := 0) (ms := 0) (av := [.int x0, .int x1, .int x2]) (rest := [.int (nI (0)), .ref 20480]) (q := 4096) lk_L_34 dc_L_bring_7 rfl rfl hX rfl rfl ?_
  refine ARX.catch (a := 5) (rs := [(659, "java/lang/IndexOutOfBoundsException")]) (i9 := 524) [⟨0, 12, 15, 28⟩] ⟨0, 12, 19, 15⟩ [] rfl (by decide +kernel) (by decide) (by decide) (by decide +kernel) (by decide) (Or.inl dc_L_bring_19) (by decide) (tgt := 21) (Or.inl ⟨dc_L_bring_19, rfl⟩) ?_
  refine AR.run g_L_bring_h1 22 [some (.ref 4096), some (.int x0), some (.int x1), some (.int x2), some (.ref 20480), none] [.int (nI (2))] _ [] rfl trivial ?_
  exact AR.retI dc_L_bring_22 rfl rfl rfl
theorem lk_L_38 : ab_lkV "LeafCradlesLaw" 38 M_X4_takeBack 2 [740, 741, 742, 91, 743] = true := by decide +kernel
theorem g_L_takeBack_0 : ab_oks M_L_takeBack [(0, .aload_n 3, 1, 3, 0, 0, .null), (1, .iconst 0, 1, 0, 0, 0, .int (nI (0))), (2, .aload_n 0, 1, 0, 0, 0, .null), (3, .iload_n 1, 1, 1, 0, 0, .null), (4, .iload_n 2, 1, 2, 0, 0, .null)] = true := by decide +kernel
theorem g_L_takeBack_i : ab_oks M_L_takeBack [(8, .i2l, 1, 0, 0, 0, .null)] = true := by decide +kernel
theorem g_L_takeBack_e : ab_oks M_L_takeBack [(10, .goto 11, 3, 21, 0, 0, .null), (21, .iconst 0, 1, 0, 0, 0, .int (nI (0)))] = true := by decide +kernel
theorem dc_L_takeBack_5 : decode (AM.bytes M_L_takeBack) 5 = .ok (.invokevirtual 38, 3) := by decide +kernel
theorem ok_L_takeBack_9 : ab_ok M_L_takeBack (9, .lastore, 1, 0, 0, 0, .null) = true := by decide +kernel
theorem dc_L_takeBack_22 : decode (AM.bytes M_L_takeBack) 22 = .ok (.ireturn, 1) := by decide +kernel
theorem g_L_takeBack_h0 : ab_oks M_L_takeBack [(15, .iconst 1, 1, 0, 0, 0, .int (nI (1)))] = true := by decide +kernel
theorem dc_L_takeBack_13 : decode (AM.bytes M_L_takeBack) 13 = .ok (.astore 4, 2) := by decide +kernel
theorem dc_L_takeBack_16 : decode (AM.bytes M_L_takeBack) 16 = .ok (.ireturn, 1) := by decide +kernel
theorem g_L_takeBack_h1 : ab_oks M_L_takeBack [(19, .iconst 2, 1, 0, 0, 0, .int (nI (2)))] = true := by decide +kernel
theorem dc_L_takeBack_17 : decode (AM.bytes M_L_takeBack) 17 = .ok (.astore 4, 2) := by decide +kernel
theorem dc_L_takeBack_20 : decode (AM.bytes M_L_takeBack) 20 = .ok (.ireturn, 1) := by decide +kernel
set_option maxRecDepth 100000 in
theorem w_takeBack_O {E : AE} {d : Nat} {x0 : Int32} {x1 : Int32} {r : Int32} {o0 t0 p0 m0 l0 a1 t1 p1 : List AC} {T K : Nat → Nat → Int32} {os sc : Int32} {ov : Nat → Int64} (hX : CT E M_X4_takeBack d [.ref 4096, .int x0, .int x1] (hp o0 (ar T K os sc) t0 p0 m0 (ou ov) l0) (.inl (some (.int r))) (hp o0 a1 t1 p1 m0 (ou ov) l0) 0 0) : CT E M_L_takeBack (d + 1) [.ref 4096, .int x0, .int x1, .ref 20480] (hp o0 (ar T K os sc) t0 p0 m0 (ou ov) l0) (.inl (some (.int (nI 0)))) (hp o0 a1 t1 p1 m0 (ou (vp_updL ov 0 r.toInt64)) l0) 0 0 := by
  refine CT.of (L := [some (.ref 4096), some (.int x0), some (.int x1), some (.ref 20480), none]) rfl rfl ?_
  refine AR.run g_L_takeBack_0 5 [some (.ref 4096), some (.int x0), some (.int x1), some (.ref 20480), none] [.int x1, .int x0, .ref 4096, .int (nI (0)), .ref 20480] _ [] rfl trivial ?_
  refine AR.callV1 (4096) [.int x0, .int x1] [.int (nI (0)), .ref 20480] lk_L_38 dc_L_takeBack_5 rfl rfl hX rfl rfl ?_
  refine AR.run g_L_takeBack_i 9 [some (.ref 4096), some (.int x0), some (.int x1), some (.ref 20480), none] [.long (r.toInt64), .int (nI (0)), .ref 20480] _ [] rfl trivial ?_
  refine AR.last (n := 0) (e := 0) (h1 := (hp o0 a1 t1 p1 m0 (ou (vp_updL ov 0 r.toInt64)) l0)) ok_L_takeBack_9 rfl rfl rfl (by omega) (by decide) rfl ?_
  refine AR.run g_L_takeBack_e 22 [some (.ref 4096), some (.int x0), some (.int x1), some (.ref 20480), none] [.int (nI (0))] _ [] rfl trivial ?_
  exact AR.retI dc_L_takeBack_22 rfl rfl rfl
set_option maxRecDepth 100000 in
theorem w_takeBack_X {E : AE} {d : Nat} {x0 : Int32} {x1 : Int32} {o0 t0 p0 m0 l0 a1 t1 p1 : List AC} {T K : Nat → Nat → Int32} {os sc : Int32} {ov : Nat → Int64} (hX : CT E M_X4_takeBack d [.ref 4096, .int x0, .int x1] (hp o0 (ar T K os sc) t0 p0 m0 (ou ov) l0) (.inr "java/lang/IndexOutOfBoundsException") (hp o0 a1 t1 p1 m0 (ou ov) l0) 1 6) : CT E M_L_takeBack (d + 1) [.ref 4096, .int x0, .int x1, .ref 20480] (hp o0 (ar T K os sc) t0 p0 m0 (ou ov) l0) (.inl (some (.int (nI 1)))) (hp o0 a1 t1 p1 m0 (ou ov) l0) 1 6 := by
  refine CT.of (L := [some (.ref 4096), some (.int x0), some (.int x1), some (.ref 20480), none]) rfl rfl ?_
  refine AR.run g_L_takeBack_0 5 [some (.ref 4096), some (.int x0), some (.int x1), some (.ref 20480), none] [.int x1, .int x0, .ref 4096, .int (nI (0)), .ref 20480] _ [] rfl trivial ?_
  refine AR.callVX (mc := 0) (ms := 0) (av := [.int x0, .int x1]) (rest := [.int (nI (0)), .ref 20480]) (q := 4096) lk_L_38 dc_L_takeBack_5 rfl rfl hX rfl rfl ?_
  refine ARX.catch (a := 4) (rs := []) (i9 := 659) [] ⟨0, 10, 13, 28⟩ [⟨0, 10, 17, 15⟩] rfl (by decide +kernel) (by decide) (by decide) (by decide +kernel) (by decide) (Or.inl dc_L_takeBack_13) (by decide) (tgt := 15) (Or.inl ⟨dc_L_takeBack_13, rfl⟩) ?_
  refine AR.run g_L_takeBack_h0 16 [some (.ref 4096), some (.int x0), some (.int x1), some (.ref 20480), none] [.int (nI (1))] _ [] rfl trivial ?_
  exact AR.retI dc_L_takeBack_16 rfl rfl rfl
set_option maxRecDepth 100000 in
theorem w_takeBack_S {E : AE} {d : Nat} {x0 : Int32} {x1 : Int32} {o0 t0 p0 m0 l0 a1 t1 p1 : List AC} {T K : Nat → Nat → Int32} {os sc : Int32} {ov : Nat → Int64} (hX : CT E M_X4_takeBack d [.ref 4096, .int x0, .int x1] (hp o0 (ar T K os sc) t0 p0 m0 (ou ov) l0) (.inr "java/lang/IllegalStateException") (hp o0 a1 t1 p1 m0 (ou ov) l0) 1 6) : CT E M_L_takeBack (d + 1) [.ref 4096, .int x0, .int x1, .ref 20480] (hp o0 (ar T K os sc) t0 p0 m0 (ou ov) l0) (.inl (some (.int (nI 2)))) (hp o0 a1 t1 p1 m0 (ou ov) l0) 1 6 := by
  refine CT.of (L := [some (.ref 4096), some (.int x0), some (.int x1), some (.ref 20480), none]) rfl rfl ?_
  refine AR.run g_L_takeBack_0 5 [some (.ref 4096), some (.int x0), some (.int x1), some (.ref 20480), none] [.int x1, .int x0, .ref 4096, .int (nI (0)), .ref 20480] _ [] rfl trivial ?_
  refine AR.callVX (mc := 0) (ms := 0) (av := [.int x0, .int x1]) (rest := [.int (nI (0)), .ref 20480]) (q := 4096) lk_L_38 dc_L_takeBack_5 rfl rfl hX rfl rfl ?_
  refine ARX.catch (a := 4) (rs := [(659, "java/lang/IndexOutOfBoundsException")]) (i9 := 524) [⟨0, 10, 13, 28⟩] ⟨0, 10, 17, 15⟩ [] rfl (by decide +kernel) (by decide) (by decide) (by decide +kernel) (by decide) (Or.inl dc_L_takeBack_17) (by decide) (tgt := 19) (Or.inl ⟨dc_L_takeBack_17, rfl⟩) ?_
  refine AR.run g_L_takeBack_h1 20 [some (.ref 4096), some (.int x0), some (.int x1), some (.ref 20480), none] [.int (nI (2))] _ [] rfl trivial ?_
  exact AR.retI dc_L_takeBack_20 rfl rfl rfl
theorem lk_L_41 : ab_lkV "LeafCradlesLaw" 41 M_X4_pass 1 [756, 757, 758, 91, 759] = true := by decide +kernel
theorem g_L_pass_0 : ab_oks M_L_pass [(0, .aload_n 2, 1, 2, 0, 0, .null), (1, .iconst 0, 1, 0, 0, 0, .int (nI (0))), (2, .aload_n 0, 1, 0, 0, 0, .null), (3, .iload_n 1, 1, 1, 0, 0, .null)] = true := by decide +kernel
theorem g_L_pass_i : ab_oks M_L_pass [(7, .i2l, 1, 0, 0, 0, .null)] = true := by decide +kernel
theorem g_L_pass_e : ab_oks M_L_pass [(9, .goto 9, 3, 18, 0, 0, .null), (18, .iconst 0, 1, 0, 0, 0, .int (nI (0)))] = true := by decide +kernel
theorem dc_L_pass_4 : decode (AM.bytes M_L_pass) 4 = .ok (.invokevirtual 41, 3) := by decide +kernel
theorem ok_L_pass_8 : ab_ok M_L_pass (8, .lastore, 1, 0, 0, 0, .null) = true := by decide +kernel
theorem dc_L_pass_19 : decode (AM.bytes M_L_pass) 19 = .ok (.ireturn, 1) := by decide +kernel
theorem g_L_pass_h0 : ab_oks M_L_pass [(13, .iconst 1, 1, 0, 0, 0, .int (nI (1)))] = true := by decide +kernel
theorem dc_L_pass_12 : decode (AM.bytes M_L_pass) 12 = .ok (.astore_n 3, 1) := by decide +kernel
theorem dc_L_pass_14 : decode (AM.bytes M_L_pass) 14 = .ok (.ireturn, 1) := by decide +kernel
theorem g_L_pass_h1 : ab_oks M_L_pass [(16, .iconst 2, 1, 0, 0, 0, .int (nI (2)))] = true := by decide +kernel
theorem dc_L_pass_15 : decode (AM.bytes M_L_pass) 15 = .ok (.astore_n 3, 1) := by decide +kernel
theorem dc_L_pass_17 : decode (AM.bytes M_L_pass) 17 = .ok (.ireturn, 1) := by decide +kernel
set_option maxRecDepth 100000 in
theorem w_pass_O {E : AE} {d : Nat} {x0 : Int32} {r : Int32} {o0 t0 p0 m0 l0 a1 t1 p1 : List AC} {T K : Nat → Nat → Int32} {os sc : Int32} {ov : Nat → Int64} (hX : CT E M_X4_pass d [.ref 4096, .int x0] (hp o0 (ar T K os sc) t0 p0 m0 (ou ov) l0) (.inl (some (.int r))) (hp o0 a1 t1 p1 m0 (ou ov) l0) 0 0) : CT E M_L_pass (d + 1) [.ref 4096, .int x0, .ref 20480] (hp o0 (ar T K os sc) t0 p0 m0 (ou ov) l0) (.inl (some (.int (nI 0)))) (hp o0 a1 t1 p1 m0 (ou (vp_updL ov 0 r.toInt64)) l0) 0 0 := by
  refine CT.of (L := [some (.ref 4096), some (.int x0), some (.ref 20480), none]) rfl rfl ?_
  refine AR.run g_L_pass_0 4 [some (.ref 4096), some (.int x0), some (.ref 20480), none] [.int x0, .ref 4096, .int (nI (0)), .ref 20480] _ [] rfl trivial ?_
  refine AR.callV1 (4096) [.int x0] [.int (nI (0)), .ref 20480] lk_L_41 dc_L_pass_4 rfl rfl hX rfl rfl ?_
  refine AR.run g_L_pass_i 8 [some (.ref 4096), some (.int x0), some (.ref 20480), none] [.long (r.toInt64), .int (nI (0)), .ref 20480] _ [] rfl trivial ?_
  refine AR.last (n := 0) (e := 0) (h1 := (hp o0 a1 t1 p1 m0 (ou (vp_updL ov 0 r.toInt64)) l0)) ok_L_pass_8 rfl rfl rfl (by omega) (by decide) rfl ?_
  refine AR.run g_L_pass_e 19 [some (.ref 4096), some (.int x0), some (.ref 20480), none] [.int (nI (0))] _ [] rfl trivial ?_
  exact AR.retI dc_L_pass_19 rfl rfl rfl
set_option maxRecDepth 100000 in
theorem w_pass_A {E : AE} {d : Nat} {x0 : Int32} {o0 t0 p0 m0 l0 a1 t1 p1 : List AC} {T K : Nat → Nat → Int32} {os sc : Int32} {ov : Nat → Int64} (hX : CT E M_X4_pass d [.ref 4096, .int x0] (hp o0 (ar T K os sc) t0 p0 m0 (ou ov) l0) (.inr "java/lang/IllegalArgumentException") (hp o0 a1 t1 p1 m0 (ou ov) l0) 1 6) : CT E M_L_pass (d + 1) [.ref 4096, .int x0, .ref 20480] (hp o0 (ar T K os sc) t0 p0 m0 (ou ov) l0) (.inl (some (.int (nI 1)))) (hp o0 a1 t1 p1 m0 (ou ov) l0) 1 6 := by
  refine CT.of (L := [some (.ref 4096), some (.int x0), some (.ref 20480), none]) rfl rfl ?_
  refine AR.run g_L_pass_0 4 [some (.ref 4096), some (.int x0), some (.ref 20480), none] [.int x0, .ref 4096, .int (nI (0)), .ref 20480] _ [] rfl trivial ?_
  refine AR.callVX (mc := 0) (ms := 0) (av := [.int x0]) (rest := [.int (nI (0)), .ref 20480]) (q := 4096) lk_L_41 dc_L_pass_4 rfl rfl hX rfl rfl ?_
  refine ARX.catch (a := 3) (rs := []) (i9 := 523) [] ⟨0, 9, 12, 13⟩ [⟨0, 9, 15, 15⟩] rfl (by decide +kernel) (by decide) (by decide) (by decide +kernel) (by decide) (Or.inr ⟨⟨3, by omega⟩, rfl, dc_L_pass_12⟩) (by decide) (tgt := 13) (Or.inr ⟨⟨⟨3, by omega⟩, rfl, dc_L_pass_12⟩, rfl⟩) ?_
  refine AR.run g_L_pass_h0 14 [some (.ref 4096), some (.int x0), some (.ref 20480), none] [.int (nI (1))] _ [] rfl trivial ?_
  exact AR.retI dc_L_pass_14 rfl rfl rfl
set_option maxRecDepth 100000 in
theorem w_pass_S {E : AE} {d : Nat} {x0 : Int32} {o0 t0 p0 m0 l0 a1 t1 p1 : List AC} {T K : Nat → Nat → Int32} {os sc : Int32} {ov : Nat → Int64} (hX : CT E M_X4_pass d [.ref 4096, .int x0] (hp o0 (ar T K os sc) t0 p0 m0 (ou ov) l0) (.inr "java/lang/IllegalStateException") (hp o0 a1 t1 p1 m0 (ou ov) l0) 1 6) : CT E M_L_pass (d + 1) [.ref 4096, .int x0, .ref 20480] (hp o0 (ar T K os sc) t0 p0 m0 (ou ov) l0) (.inl (some (.int (nI 2)))) (hp o0 a1 t1 p1 m0 (ou ov) l0) 1 6 := by
  refine CT.of (L := [some (.ref 4096), some (.int x0), some (.ref 20480), none]) rfl rfl ?_
  refine AR.run g_L_pass_0 4 [some (.ref 4096), some (.int x0), some (.ref 20480), none] [.int x0, .ref 4096, .int (nI (0)), .ref 20480] _ [] rfl trivial ?_
  refine AR.callVX (mc := 0) (ms := 0) (av := [.int x0]) (rest := [.int (nI (0)), .ref 20480]) (q := 4096) lk_L_41 dc_L_pass_4 rfl rfl hX rfl rfl ?_
  refine ARX.catch (a := 3) (rs := [(523, "java/lang/IllegalArgumentException")]) (i9 := 524) [⟨0, 9, 12, 13⟩] ⟨0, 9, 15, 15⟩ [] rfl (by decide +kernel) (by decide) (by decide) (by decide +kernel) (by decide) (Or.inr ⟨⟨3, by omega⟩, rfl, dc_L_pass_15⟩) (by decide) (tgt := 16) (Or.inr ⟨⟨⟨3, by omega⟩, rfl, dc_L_pass_15⟩, rfl⟩) ?_
  refine AR.run g_L_pass_h1 17 [some (.ref 4096), some (.int x0), some (.ref 20480), none] [.int (nI (2))] _ [] rfl trivial ?_
  exact AR.retI dc_L_pass_17 rfl rfl rfl
theorem lk_L_44 : ab_lkV "LeafCradlesLaw" 44 M_X4_reject 2 [768, 769, 770, 91, 771] = true := by decide +kernel
theorem g_L_reject_0 : ab_oks M_L_reject [(0, .aload_n 3, 1, 3, 0, 0, .null), (1, .iconst 0, 1, 0, 0, 0, .int (nI (0))), (2, .aload_n 0, 1, 0, 0, 0, .null), (3, .iload_n 1, 1, 1, 0, 0, .null), (4, .iload_n 2, 1, 2, 0, 0, .null)] = true := by decide +kernel
theorem g_L_reject_i : ab_oks M_L_reject [(8, .i2l, 1, 0, 0, 0, .null)] = true := by decide +kernel
theorem g_L_reject_e : ab_oks M_L_reject [(10, .goto 11, 3, 21, 0, 0, .null), (21, .iconst 0, 1, 0, 0, 0, .int (nI (0)))] = true := by decide +kernel
theorem dc_L_reject_5 : decode (AM.bytes M_L_reject) 5 = .ok (.invokevirtual 44, 3) := by decide +kernel
theorem ok_L_reject_9 : ab_ok M_L_reject (9, .lastore, 1, 0, 0, 0, .null) = true := by decide +kernel
theorem dc_L_reject_22 : decode (AM.bytes M_L_reject) 22 = .ok (.ireturn, 1) := by decide +kernel
theorem g_L_reject_h0 : ab_oks M_L_reject [(15, .iconst 1, 1, 0, 0, 0, .int (nI (1)))] = true := by decide +kernel
theorem dc_L_reject_13 : decode (AM.bytes M_L_reject) 13 = .ok (.astore 4, 2) := by decide +kernel
theorem dc_L_reject_16 : decode (AM.bytes M_L_reject) 16 = .ok (.ireturn, 1) := by decide +kernel
theorem g_L_reject_h1 : ab_oks M_L_reject [(19, .iconst 2, 1, 0, 0, 0, .int (nI (2)))] = true := by decide +kernel
theorem dc_L_reject_17 : decode (AM.bytes M_L_reject) 17 = .ok (.astore 4, 2) := by decide +kernel
theorem dc_L_reject_20 : decode (AM.bytes M_L_reject) 20 = .ok (.ireturn, 1) := by decide +kernel
set_option maxRecDepth 100000 in
theorem w_reject_O {E : AE} {d : Nat} {x0 : Int32} {x1 : Int32} {r : Int32} {o0 t0 p0 m0 l0 a1 t1 p1 : List AC} {T K : Nat → Nat → Int32} {os sc : Int32} {ov : Nat → Int64} (hX : CT E M_X4_reject d [.ref 4096, .int x0, .int x1] (hp o0 (ar T K os sc) t0 p0 m0 (ou ov) l0) (.inl (some (.int r))) (hp o0 a1 t1 p1 m0 (ou ov) l0) 0 0) : CT E M_L_reject (d + 1) [.ref 4096, .int x0, .int x1, .ref 20480] (hp o0 (ar T K os sc) t0 p0 m0 (ou ov) l0) (.inl (some (.int (nI 0)))) (hp o0 a1 t1 p1 m0 (ou (vp_updL ov 0 r.toInt64)) l0) 0 0 := by
  refine CT.of (L := [some (.ref 4096), some (.int x0), some (.int x1), some (.ref 20480), none]) rfl rfl ?_
  refine AR.run g_L_reject_0 5 [some (.ref 4096), some (.int x0), some (.int x1), some (.ref 20480), none] [.int x1, .int x0, .ref 4096, .int (nI (0)), .ref 20480] _ [] rfl trivial ?_
  refine AR.callV1 (4096) [.int x0, .int x1] [.int (nI (0)), .ref 20480] lk_L_44 dc_L_reject_5 rfl rfl hX rfl rfl ?_
  refine AR.run g_L_reject_i 9 [some (.ref 4096), some (.int x0), some (.int x1), some (.ref 20480), none] [.long (r.toInt64), .int (nI (0)), .ref 20480] _ [] rfl trivial ?_
  refine AR.last (n := 0) (e := 0) (h1 := (hp o0 a1 t1 p1 m0 (ou (vp_updL ov 0 r.toInt64)) l0)) ok_L_reject_9 rfl rfl rfl (by omega) (by decide) rfl ?_
  refine AR.run g_L_reject_e 22 [some (.ref 4096), some (.int x0), some (.int x1), some (.ref 20480), none] [.int (nI (0))] _ [] rfl trivial ?_
  exact AR.retI dc_L_reject_22 rfl rfl rfl
set_option maxRecDepth 100000 in
theorem w_reject_X {E : AE} {d : Nat} {x0 : Int32} {x1 : Int32} {o0 t0 p0 m0 l0 a1 t1 p1 : List AC} {T K : Nat → Nat → Int32} {os sc : Int32} {ov : Nat → Int64} (hX : CT E M_X4_reject d [.ref 4096, .int x0, .int x1] (hp o0 (ar T K os sc) t0 p0 m0 (ou ov) l0) (.inr "java/lang/IndexOutOfBoundsException") (hp o0 a1 t1 p1 m0 (ou ov) l0) 1 6) : CT E M_L_reject (d + 1) [.ref 4096, .int x0, .int x1, .ref 20480] (hp o0 (ar T K os sc) t0 p0 m0 (ou ov) l0) (.inl (some (.int (nI 1)))) (hp o0 a1 t1 p1 m0 (ou ov) l0) 1 6 := by
  refine CT.of (L := [some (.ref 4096), some (.int x0), some (.int x1), some (.ref 20480), none]) rfl rfl ?_
  refine AR.run g_L_reject_0 5 [some (.ref 4096), some (.int x0), some (.int x1), some (.ref 20480), none] [.int x1, .int x0, .ref 4096, .int (nI (0)), .ref 20480] _ [] rfl trivial ?_
  refine AR.callVX (mc := 0) (ms := 0) (av := [.int x0, .int x1]) (rest := [.int (nI (0)), .ref 20480]) (q := 4096) lk_L_44 dc_L_reject_5 rfl rfl hX rfl rfl ?_
  refine ARX.catch (a := 4) (rs := []) (i9 := 659) [] ⟨0, 10, 13, 28⟩ [⟨0, 10, 17, 15⟩] rfl (by decide +kernel) (by decide) (by decide) (by decide +kernel) (by decide) (Or.inl dc_L_reject_13) (by decide) (tgt := 15) (Or.inl ⟨dc_L_reject_13, rfl⟩) ?_
  refine AR.run g_L_reject_h0 16 [some (.ref 4096), some (.int x0), some (.int x1), some (.ref 20480), none] [.int (nI (1))] _ [] rfl trivial ?_
  exact AR.retI dc_L_reject_16 rfl rfl rfl
set_option maxRecDepth 100000 in
theorem w_reject_S {E : AE} {d : Nat} {x0 : Int32} {x1 : Int32} {o0 t0 p0 m0 l0 a1 t1 p1 : List AC} {T K : Nat → Nat → Int32} {os sc : Int32} {ov : Nat → Int64} (hX : CT E M_X4_reject d [.ref 4096, .int x0, .int x1] (hp o0 (ar T K os sc) t0 p0 m0 (ou ov) l0) (.inr "java/lang/IllegalStateException") (hp o0 a1 t1 p1 m0 (ou ov) l0) 1 6) : CT E M_L_reject (d + 1) [.ref 4096, .int x0, .int x1, .ref 20480] (hp o0 (ar T K os sc) t0 p0 m0 (ou ov) l0) (.inl (some (.int (nI 2)))) (hp o0 a1 t1 p1 m0 (ou ov) l0) 1 6 := by
  refine CT.of (L := [some (.ref 4096), some (.int x0), some (.int x1), some (.ref 20480), none]) rfl rfl ?_
  refine AR.run g_L_reject_0 5 [some (.ref 4096), some (.int x0), some (.int x1), some (.ref 20480), none] [.int x1, .int x0, .ref 4096, .int (nI (0)), .ref 20480] _ [] rfl trivial ?_
  refine AR.callVX (mc := 0) (ms := 0) (av := [.int x0, .int x1]) (rest := [.int (nI (0)), .ref 20480]) (q := 4096) lk_L_44 dc_L_reject_5 rfl rfl hX rfl rfl ?_
  refine ARX.catch (a := 4) (rs := [(659, "java/lang/IndexOutOfBoundsException")]) (i9 := 524) [⟨0, 10, 13, 28⟩] ⟨0, 10, 17, 15⟩ [] rfl (by decide +kernel) (by decide) (by decide) (by decide +kernel) (by decide) (Or.inl dc_L_reject_17) (by decide) (tgt := 19) (Or.inl ⟨dc_L_reject_17, rfl⟩) ?_
  refine AR.run g_L_reject_h1 20 [some (.ref 4096), some (.int x0), some (.int x1), some (.ref 20480), none] [.int (nI (2))] _ [] rfl trivial ?_
  exact AR.retI dc_L_reject_20 rfl rfl rfl
theorem lk_L_47 : ab_lkV "LeafCradlesLaw" 47 M_X4_append 1 [780, 781, 782, 91, 783] = true := by decide +kernel
theorem g_L_append_0 : ab_oks M_L_append [(0, .aload_n 2, 1, 2, 0, 0, .null), (1, .iconst 0, 1, 0, 0, 0, .int (nI (0))), (2, .aload_n 0, 1, 0, 0, 0, .null), (3, .iload_n 1, 1, 1, 0, 0, .null)] = true := by decide +kernel
theorem g_L_append_i : ab_oks M_L_append [(7, .i2l, 1, 0, 0, 0, .null)] = true := by decide +kernel
theorem g_L_append_e : ab_oks M_L_append [(9, .goto 9, 3, 18, 0, 0, .null), (18, .iconst 0, 1, 0, 0, 0, .int (nI (0)))] = true := by decide +kernel
theorem dc_L_append_4 : decode (AM.bytes M_L_append) 4 = .ok (.invokevirtual 47, 3) := by decide +kernel
theorem ok_L_append_8 : ab_ok M_L_append (8, .lastore, 1, 0, 0, 0, .null) = true := by decide +kernel
theorem dc_L_append_19 : decode (AM.bytes M_L_append) 19 = .ok (.ireturn, 1) := by decide +kernel
theorem g_L_append_h0 : ab_oks M_L_append [(13, .iconst 1, 1, 0, 0, 0, .int (nI (1)))] = true := by decide +kernel
theorem dc_L_append_12 : decode (AM.bytes M_L_append) 12 = .ok (.astore_n 3, 1) := by decide +kernel
theorem dc_L_append_14 : decode (AM.bytes M_L_append) 14 = .ok (.ireturn, 1) := by decide +kernel
theorem g_L_append_h1 : ab_oks M_L_append [(16, .iconst 2, 1, 0, 0, 0, .int (nI (2)))] = true := by decide +kernel
theorem dc_L_append_15 : decode (AM.bytes M_L_append) 15 = .ok (.astore_n 3, 1) := by decide +kernel
theorem dc_L_append_17 : decode (AM.bytes M_L_append) 17 = .ok (.ireturn, 1) := by decide +kernel
set_option maxRecDepth 100000 in
theorem w_append_O {E : AE} {d : Nat} {x0 : Int32} {r : Int32} {o0 t0 p0 m0 l0 a1 t1 p1 : List AC} {T K : Nat → Nat → Int32} {os sc : Int32} {ov : Nat → Int64} (hX : CT E M_X4_append d [.ref 4096, .int x0] (hp o0 (ar T K os sc) t0 p0 m0 (ou ov) l0) (.inl (some (.int r))) (hp o0 a1 t1 p1 m0 (ou ov) l0) 0 0) : CT E M_L_append (d + 1) [.ref 4096, .int x0, .ref 20480] (hp o0 (ar T K os sc) t0 p0 m0 (ou ov) l0) (.inl (some (.int (nI 0)))) (hp o0 a1 t1 p1 m0 (ou (vp_updL ov 0 r.toInt64)) l0) 0 0 := by
  refine CT.of (L := [some (.ref 4096), some (.int x0), some (.ref 20480), none]) rfl rfl ?_
  refine AR.run g_L_append_0 4 [some (.ref 4096), some (.int x0), some (.ref 20480), none] [.int x0, .ref 4096, .int (nI (0)), .ref 20480] _ [] rfl trivial ?_
  refine AR.callV1 (4096) [.int x0] [.int (nI (0)), .ref 20480] lk_L_47 dc_L_append_4 rfl rfl hX rfl rfl ?_
  refine AR.run g_L_append_i 8 [some (.ref 4096), some (.int x0), some (.ref 20480), none] [.long (r.toInt64), .int (nI (0)), .ref 20480] _ [] rfl trivial ?_
  refine AR.last (n := 0) (e := 0) (h1 := (hp o0 a1 t1 p1 m0 (ou (vp_updL ov 0 r.toInt64)) l0)) ok_L_append_8 rfl rfl rfl (by omega) (by decide) rfl ?_
  refine AR.run g_L_append_e 19 [some (.ref 4096), some (.int x0), some (.ref 20480), none] [.int (nI (0))] _ [] rfl trivial ?_
  exact AR.retI dc_L_append_19 rfl rfl rfl
set_option maxRecDepth 100000 in
theorem w_append_A {E : AE} {d : Nat} {x0 : Int32} {o0 t0 p0 m0 l0 a1 t1 p1 : List AC} {T K : Nat → Nat → Int32} {os sc : Int32} {ov : Nat → Int64} (hX : CT E M_X4_append d [.ref 4096, .int x0] (hp o0 (ar T K os sc) t0 p0 m0 (ou ov) l0) (.inr "java/lang/IllegalArgumentException") (hp o0 a1 t1 p1 m0 (ou ov) l0) 1 6) : CT E M_L_append (d + 1) [.ref 4096, .int x0, .ref 20480] (hp o0 (ar T K os sc) t0 p0 m0 (ou ov) l0) (.inl (some (.int (nI 1)))) (hp o0 a1 t1 p1 m0 (ou ov) l0) 1 6 := by
  refine CT.of (L := [some (.ref 4096), some (.int x0), some (.ref 20480), none]) rfl rfl ?_
  refine AR.run g_L_append_0 4 [some (.ref 4096), some (.int x0), some (.ref 20480), none] [.int x0, .ref 4096, .int (nI (0)), .ref 20480] _ [] rfl trivial ?_
  refine AR.callVX (mc := 0) (ms := 0) (av := [.int x0]) (rest := [.int (nI (0)), .ref 20480]) (q := 4096) lk_L_47 dc_L_append_4 rfl rfl hX rfl rfl ?_
  refine ARX.catch (a := 3) (rs := []) (i9 := 523) [] ⟨0, 9, 12, 13⟩ [⟨0, 9, 15, 15⟩] rfl (by decide +kernel) (by decide) (by decide) (by decide +kernel) (by decide) (Or.inr ⟨⟨3, by omega⟩, rfl, dc_L_append_12⟩) (by decide) (tgt := 13) (Or.inr ⟨⟨⟨3, by omega⟩, rfl, dc_L_append_12⟩, rfl⟩) ?_
  refine AR.run g_L_append_h0 14 [some (.ref 4096), some (.int x0), some (.ref 20480), none] [.int (nI (1))] _ [] rfl trivial ?_
  exact AR.retI dc_L_append_14 rfl rfl rfl
set_option maxRecDepth 100000 in
theorem w_append_S {E : AE} {d : Nat} {x0 : Int32} {o0 t0 p0 m0 l0 a1 t1 p1 : List AC} {T K : Nat → Nat → Int32} {os sc : Int32} {ov : Nat → Int64} (hX : CT E M_X4_append d [.ref 4096, .int x0] (hp o0 (ar T K os sc) t0 p0 m0 (ou ov) l0) (.inr "java/lang/IllegalStateException") (hp o0 a1 t1 p1 m0 (ou ov) l0) 1 6) : CT E M_L_append (d + 1) [.ref 4096, .int x0, .ref 20480] (hp o0 (ar T K os sc) t0 p0 m0 (ou ov) l0) (.inl (some (.int (nI 2)))) (hp o0 a1 t1 p1 m0 (ou ov) l0) 1 6 := by
  refine CT.of (L := [some (.ref 4096), some (.int x0), some (.ref 20480), none]) rfl rfl ?_
  refine AR.run g_L_append_0 4 [some (.ref 4096), some (.int x0), some (.ref 20480), none] [.int x0, .ref 4096, .int (nI (0)), .ref 20480] _ [] rfl trivial ?_
  refine AR.callVX (mc := 0) (ms := 0) (av := [.int x0]) (rest := [.int (nI (0)), .ref 20480]) (q := 4096) lk_L_47 dc_L_append_4 rfl rfl hX rfl rfl ?_
  refine ARX.catch (a := 3) (rs := [(523, "java/lang/IllegalArgumentException")]) (i9 := 524) [⟨0, 9, 12, 13⟩] ⟨0, 9, 15, 15⟩ [] rfl (by decide +kernel) (by decide) (by decide) (by decide +kernel) (by decide) (Or.inr ⟨⟨3, by omega⟩, rfl, dc_L_append_15⟩) (by decide) (tgt := 16) (Or.inr ⟨⟨⟨3, by omega⟩, rfl, dc_L_append_15⟩, rfl⟩) ?_
  refine AR.run g_L_append_h1 17 [some (.ref 4096), some (.int x0), some (.ref 20480), none] [.int (nI (2))] _ [] rfl trivial ?_
  exact AR.retI dc_L_append_17 rfl rfl rfl
theorem lk_L_50 : ab_lkV "LeafCradlesLaw" 50 M_X4_bar 1 [792, 793, 794, 91, 795] = true := by decide +kernel
theorem g_L_bar_0 : ab_oks M_L_bar [(0, .aload_n 2, 1, 2, 0, 0, .null), (1, .iconst 0, 1, 0, 0, 0, .int (nI (0))), (2, .aload_n 0, 1, 0, 0, 0, .null), (3, .iload_n 1, 1, 1, 0, 0, .null)] = true := by decide +kernel
theorem g_L_bar_i : ab_oks M_L_bar [(7, .i2l, 1, 0, 0, 0, .null)] = true := by decide +kernel
theorem g_L_bar_e : ab_oks M_L_bar [(9, .goto 12, 3, 21, 0, 0, .null), (21, .iconst 0, 1, 0, 0, 0, .int (nI (0)))] = true := by decide +kernel
theorem dc_L_bar_4 : decode (AM.bytes M_L_bar) 4 = .ok (.invokevirtual 50, 3) := by decide +kernel
theorem ok_L_bar_8 : ab_ok M_L_bar (8, .lastore, 1, 0, 0, 0, .null) = true := by decide +kernel
theorem dc_L_bar_22 : decode (AM.bytes M_L_bar) 22 = .ok (.ireturn, 1) := by decide +kernel
theorem g_L_bar_h0 : ab_oks M_L_bar [(13, .iconst 1, 1, 0, 0, 0, .int (nI (1)))] = true := by decide +kernel
theorem dc_L_bar_12 : decode (AM.bytes M_L_bar) 12 = .ok (.astore_n 3, 1) := by decide +kernel
theorem dc_L_bar_14 : decode (AM.bytes M_L_bar) 14 = .ok (.ireturn, 1) := by decide +kernel
theorem g_L_bar_h1 : ab_oks M_L_bar [(16, .iconst 2, 1, 0, 0, 0, .int (nI (2)))] = true := by decide +kernel
theorem dc_L_bar_15 : decode (AM.bytes M_L_bar) 15 = .ok (.astore_n 3, 1) := by decide +kernel
theorem dc_L_bar_17 : decode (AM.bytes M_L_bar) 17 = .ok (.ireturn, 1) := by decide +kernel
theorem g_L_bar_h2 : ab_oks M_L_bar [(19, .iconst 3, 1, 0, 0, 0, .int (nI (3)))] = true := by decide +kernel
theorem dc_L_bar_18 : decode (AM.bytes M_L_bar) 18 = .ok (.astore_n 3, 1) := by decide +kernel
theorem dc_L_bar_20 : decode (AM.bytes M_L_bar) 20 = .ok (.ireturn, 1) := by decide +kernel
set_option maxRecDepth 100000 in
theorem w_bar_O {E : AE} {d : Nat} {x0 : Int32} {r : Int32} {o0 t0 p0 m0 l0 a1 t1 p1 : List AC} {T K : Nat → Nat → Int32} {os sc : Int32} {ov : Nat → Int64} (hX : CT E M_X4_bar d [.ref 4096, .int x0] (hp o0 (ar T K os sc) t0 p0 m0 (ou ov) l0) (.inl (some (.int r))) (hp o0 a1 t1 p1 m0 (ou ov) l0) 0 0) : CT E M_L_bar (d + 1) [.ref 4096, .int x0, .ref 20480] (hp o0 (ar T K os sc) t0 p0 m0 (ou ov) l0) (.inl (some (.int (nI 0)))) (hp o0 a1 t1 p1 m0 (ou (vp_updL ov 0 r.toInt64)) l0) 0 0 := by
  refine CT.of (L := [some (.ref 4096), some (.int x0), some (.ref 20480), none]) rfl rfl ?_
  refine AR.run g_L_bar_0 4 [some (.ref 4096), some (.int x0), some (.ref 20480), none] [.int x0, .ref 4096, .int (nI (0)), .ref 20480] _ [] rfl trivial ?_
  refine AR.callV1 (4096) [.int x0] [.int (nI (0)), .ref 20480] lk_L_50 dc_L_bar_4 rfl rfl hX rfl rfl ?_
  refine AR.run g_L_bar_i 8 [some (.ref 4096), some (.int x0), some (.ref 20480), none] [.long (r.toInt64), .int (nI (0)), .ref 20480] _ [] rfl trivial ?_
  refine AR.last (n := 0) (e := 0) (h1 := (hp o0 a1 t1 p1 m0 (ou (vp_updL ov 0 r.toInt64)) l0)) ok_L_bar_8 rfl rfl rfl (by omega) (by decide) rfl ?_
  refine AR.run g_L_bar_e 22 [some (.ref 4096), some (.int x0), some (.ref 20480), none] [.int (nI (0))] _ [] rfl trivial ?_
  exact AR.retI dc_L_bar_22 rfl rfl rfl
set_option maxRecDepth 100000 in
theorem w_bar_X {E : AE} {d : Nat} {x0 : Int32} {o0 t0 p0 m0 l0 a1 t1 p1 : List AC} {T K : Nat → Nat → Int32} {os sc : Int32} {ov : Nat → Int64} (hX : CT E M_X4_bar d [.ref 4096, .int x0] (hp o0 (ar T K os sc) t0 p0 m0 (ou ov) l0) (.inr "java/lang/IndexOutOfBoundsException") (hp o0 a1 t1 p1 m0 (ou ov) l0) 1 6) : CT E M_L_bar (d + 1) [.ref 4096, .int x0, .ref 20480] (hp o0 (ar T K os sc) t0 p0 m0 (ou ov) l0) (.inl (some (.int (nI 1)))) (hp o0 a1 t1 p1 m0 (ou ov) l0) 1 6 := by
  refine CT.of (L := [some (.ref 4096), some (.int x0), some (.ref 20480), none]) rfl rfl ?_
  refine AR.run g_L_bar_0 4 [some (.ref 4096), some (.int x0), some (.ref 20480), none] [.int x0, .ref 4096, .int (nI (0)), .ref 20480] _ [] rfl trivial ?_
  refine AR.callVX (mc := 0) (ms := 0) (av := [.int x0]) (rest := [.int (nI (0)), .ref 20480]) (q := 4096) lk_L_50 dc_L_bar_4 rfl rfl hX rfl rfl ?_
  refine ARX.catch (a := 3) (rs := []) (i9 := 659) [] ⟨0, 9, 12, 28⟩ [⟨0, 9, 15, 13⟩, ⟨0, 9, 18, 15⟩] rfl (by decide +kernel) (by decide) (by decide) (by decide +kernel) (by decide) (Or.inr ⟨⟨3, by omega⟩, rfl, dc_L_bar_12⟩) (by decide) (tgt := 13) (Or.inr ⟨⟨⟨3, by omega⟩, rfl, dc_L_bar_12⟩, rfl⟩) ?_
  refine AR.run g_L_bar_h0 14 [some (.ref 4096), some (.int x0), some (.ref 20480), none] [.int (nI (1))] _ [] rfl trivial ?_
  exact AR.retI dc_L_bar_14 rfl rfl rfl
set_option maxRecDepth 100000 in
theorem w_bar_A {E : AE} {d : Nat} {x0 : Int32} {o0 t0 p0 m0 l0 a1 t1 p1 : List AC} {T K : Nat → Nat → Int32} {os sc : Int32} {ov : Nat → Int64} (hX : CT E M_X4_bar d [.ref 4096, .int x0] (hp o0 (ar T K os sc) t0 p0 m0 (ou ov) l0) (.inr "java/lang/IllegalArgumentException") (hp o0 a1 t1 p1 m0 (ou ov) l0) 1 6) : CT E M_L_bar (d + 1) [.ref 4096, .int x0, .ref 20480] (hp o0 (ar T K os sc) t0 p0 m0 (ou ov) l0) (.inl (some (.int (nI 2)))) (hp o0 a1 t1 p1 m0 (ou ov) l0) 1 6 := by
  refine CT.of (L := [some (.ref 4096), some (.int x0), some (.ref 20480), none]) rfl rfl ?_
  refine AR.run g_L_bar_0 4 [some (.ref 4096), some (.int x0), some (.ref 20480), none] [.int x0, .ref 4096, .int (nI (0)), .ref 20480] _ [] rfl trivial ?_
  refine AR.callVX (mc := 0) (ms := 0) (av := [.int x0]) (rest := [.int (nI (0)), .ref 20480]) (q := 4096) lk_L_50 dc_L_bar_4 rfl rfl hX rfl rfl ?_
  refine ARX.catch (a := 3) (rs := [(659, "java/lang/IndexOutOfBoundsException")]) (i9 := 523) [⟨0, 9, 12, 28⟩] ⟨0, 9, 15, 13⟩ [⟨0, 9, 18, 15⟩] rfl (by decide +kernel) (by decide) (by decide) (by decide +kernel) (by decide) (Or.inr ⟨⟨3, by omega⟩, rfl, dc_L_bar_15⟩) (by decide) (tgt := 16) (Or.inr ⟨⟨⟨3, by omega⟩, rfl, dc_L_bar_15⟩, rfl⟩) ?_
  refine AR.run g_L_bar_h1 17 [some (.ref 4096), some (.int x0), some (.ref 20480), none] [.int (nI (2))] _ [] rfl trivial ?_
  exact AR.retI dc_L_bar_17 rfl rfl rfl
set_option maxRecDepth 100000 in
theorem w_bar_S {E : AE} {d : Nat} {x0 : Int32} {o0 t0 p0 m0 l0 a1 t1 p1 : List AC} {T K : Nat → Nat → Int32} {os sc : Int32} {ov : Nat → Int64} (hX : CT E M_X4_bar d [.ref 4096, .int x0] (hp o0 (ar T K os sc) t0 p0 m0 (ou ov) l0) (.inr "java/lang/IllegalStateException") (hp o0 a1 t1 p1 m0 (ou ov) l0) 1 6) : CT E M_L_bar (d + 1) [.ref 4096, .int x0, .ref 20480] (hp o0 (ar T K os sc) t0 p0 m0 (ou ov) l0) (.inl (some (.int (nI 3)))) (hp o0 a1 t1 p1 m0 (ou ov) l0) 1 6 := by
  refine CT.of (L := [some (.ref 4096), some (.int x0), some (.ref 20480), none]) rfl rfl ?_
  refine AR.run g_L_bar_0 4 [some (.ref 4096), some (.int x0), some (.ref 20480), none] [.int x0, .ref 4096, .int (nI (0)), .ref 20480] _ [] rfl trivial ?_
  refine AR.callVX (mc := 0) (ms := 0) (av := [.int x0]) (rest := [.int (nI (0)), .ref 20480]) (q := 4096) lk_L_50 dc_L_bar_4 rfl rfl hX rfl rfl ?_
  refine ARX.catch (a := 3) (rs := [(659, "java/lang/IndexOutOfBoundsException"), (523, "java/lang/IllegalArgumentException")]) (i9 := 524) [⟨0, 9, 12, 28⟩, ⟨0, 9, 15, 13⟩] ⟨0, 9, 18, 15⟩ [] rfl (by decide +kernel) (by decide) (by decide) (by decide +kernel) (by decide) (Or.inr ⟨⟨3, by omega⟩, rfl, dc_L_bar_18⟩) (by decide) (tgt := 19) (Or.inr ⟨⟨⟨3, by omega⟩, rfl, dc_L_bar_18⟩, rfl⟩) ?_
  refine AR.run g_L_bar_h2 20 [some (.ref 4096), some (.int x0), some (.ref 20480), none] [.int (nI (3))] _ [] rfl trivial ?_
  exact AR.retI dc_L_bar_20 rfl rfl rfl
theorem lk_L_53 : ab_lkV "LeafCradlesLaw" 53 M_X4_undo 0 [824, 825, 826, 91, 827] = true := by decide +kernel
theorem g_L_undo_0 : ab_oks M_L_undo [(0, .aload_n 1, 1, 1, 0, 0, .null), (1, .iconst 0, 1, 0, 0, 0, .int (nI (0))), (2, .aload_n 0, 1, 0, 0, 0, .null)] = true := by decide +kernel
theorem g_L_undo_i : ab_oks M_L_undo [(6, .i2l, 1, 0, 0, 0, .null)] = true := by decide +kernel
theorem g_L_undo_e : ab_oks M_L_undo [(8, .goto 6, 3, 14, 0, 0, .null), (14, .iconst 0, 1, 0, 0, 0, .int (nI (0)))] = true := by decide +kernel
theorem dc_L_undo_3 : decode (AM.bytes M_L_undo) 3 = .ok (.invokevirtual 53, 3) := by decide +kernel
theorem ok_L_undo_7 : ab_ok M_L_undo (7, .lastore, 1, 0, 0, 0, .null) = true := by decide +kernel
theorem dc_L_undo_15 : decode (AM.bytes M_L_undo) 15 = .ok (.ireturn, 1) := by decide +kernel
theorem g_L_undo_h0 : ab_oks M_L_undo [(12, .iconst 1, 1, 0, 0, 0, .int (nI (1)))] = true := by decide +kernel
theorem dc_L_undo_11 : decode (AM.bytes M_L_undo) 11 = .ok (.astore_n 2, 1) := by decide +kernel
theorem dc_L_undo_13 : decode (AM.bytes M_L_undo) 13 = .ok (.ireturn, 1) := by decide +kernel
set_option maxRecDepth 100000 in
theorem w_undo_O {E : AE} {d : Nat} {r : Int32} {o0 t0 p0 m0 l0 a1 t1 p1 : List AC} {T K : Nat → Nat → Int32} {os sc : Int32} {ov : Nat → Int64} (hX : CT E M_X4_undo d [.ref 4096] (hp o0 (ar T K os sc) t0 p0 m0 (ou ov) l0) (.inl (some (.int r))) (hp o0 a1 t1 p1 m0 (ou ov) l0) 0 0) : CT E M_L_undo (d + 1) [.ref 4096, .ref 20480] (hp o0 (ar T K os sc) t0 p0 m0 (ou ov) l0) (.inl (some (.int (nI 0)))) (hp o0 a1 t1 p1 m0 (ou (vp_updL ov 0 r.toInt64)) l0) 0 0 := by
  refine CT.of (L := [some (.ref 4096), some (.ref 20480), none]) rfl rfl ?_
  refine AR.run g_L_undo_0 3 [some (.ref 4096), some (.ref 20480), none] [.ref 4096, .int (nI (0)), .ref 20480] _ [] rfl trivial ?_
  refine AR.callV1 (4096) [] [.int (nI (0)), .ref 20480] lk_L_53 dc_L_undo_3 rfl rfl hX rfl rfl ?_
  refine AR.run g_L_undo_i 7 [some (.ref 4096), some (.ref 20480), none] [.long (r.toInt64), .int (nI (0)), .ref 20480] _ [] rfl trivial ?_
  refine AR.last (n := 0) (e := 0) (h1 := (hp o0 a1 t1 p1 m0 (ou (vp_updL ov 0 r.toInt64)) l0)) ok_L_undo_7 rfl rfl rfl (by omega) (by decide) rfl ?_
  refine AR.run g_L_undo_e 15 [some (.ref 4096), some (.ref 20480), none] [.int (nI (0))] _ [] rfl trivial ?_
  exact AR.retI dc_L_undo_15 rfl rfl rfl
set_option maxRecDepth 100000 in
theorem w_undo_S {E : AE} {d : Nat} {o0 t0 p0 m0 l0 a1 t1 p1 : List AC} {T K : Nat → Nat → Int32} {os sc : Int32} {ov : Nat → Int64} (hX : CT E M_X4_undo d [.ref 4096] (hp o0 (ar T K os sc) t0 p0 m0 (ou ov) l0) (.inr "java/lang/IllegalStateException") (hp o0 a1 t1 p1 m0 (ou ov) l0) 1 6) : CT E M_L_undo (d + 1) [.ref 4096, .ref 20480] (hp o0 (ar T K os sc) t0 p0 m0 (ou ov) l0) (.inl (some (.int (nI 1)))) (hp o0 a1 t1 p1 m0 (ou ov) l0) 1 6 := by
  refine CT.of (L := [some (.ref 4096), some (.ref 20480), none]) rfl rfl ?_
  refine AR.run g_L_undo_0 3 [some (.ref 4096), some (.ref 20480), none] [.ref 4096, .int (nI (0)), .ref 20480] _ [] rfl trivial ?_
  refine AR.callVX (mc := 0) (ms := 0) (av := []) (rest := [.int (nI (0)), .ref 20480]) (q := 4096) lk_L_53 dc_L_undo_3 rfl rfl hX rfl rfl ?_
  refine ARX.catch (a := 2) (rs := []) (i9 := 524) [] ⟨0, 8, 11, 15⟩ [] rfl (by decide +kernel) (by decide) (by decide) (by decide +kernel) (by decide) (Or.inr ⟨⟨2, by omega⟩, rfl, dc_L_undo_11⟩) (by decide) (tgt := 12) (Or.inr ⟨⟨⟨2, by omega⟩, rfl, dc_L_undo_11⟩, rfl⟩) ?_
  refine AR.run g_L_undo_h0 13 [some (.ref 4096), some (.ref 20480), none] [.int (nI (1))] _ [] rfl trivial ?_
  exact AR.retI dc_L_undo_13 rfl rfl rfl
theorem lk_L_56 : ab_lkV "LeafCradlesLaw" 56 M_X4_volume 2 [844, 845, 846, 91, 847] = true := by decide +kernel
theorem g_L_volume_0 : ab_oks M_L_volume [(0, .aload_n 3, 1, 3, 0, 0, .null), (1, .iconst 0, 1, 0, 0, 0, .int (nI (0))), (2, .aload_n 0, 1, 0, 0, 0, .null), (3, .iload_n 1, 1, 1, 0, 0, .null), (4, .iload_n 2, 1, 2, 0, 0, .null)] = true := by decide +kernel
theorem g_L_volume_i : ab_oks M_L_volume [(8, .i2l, 1, 0, 0, 0, .null)] = true := by decide +kernel
theorem g_L_volume_e : ab_oks M_L_volume [(10, .goto 11, 3, 21, 0, 0, .null), (21, .iconst 0, 1, 0, 0, 0, .int (nI (0)))] = true := by decide +kernel
theorem dc_L_volume_5 : decode (AM.bytes M_L_volume) 5 = .ok (.invokevirtual 56, 3) := by decide +kernel
theorem ok_L_volume_9 : ab_ok M_L_volume (9, .lastore, 1, 0, 0, 0, .null) = true := by decide +kernel
theorem dc_L_volume_22 : decode (AM.bytes M_L_volume) 22 = .ok (.ireturn, 1) := by decide +kernel
theorem g_L_volume_h0 : ab_oks M_L_volume [(15, .iconst 1, 1, 0, 0, 0, .int (nI (1)))] = true := by decide +kernel
theorem dc_L_volume_13 : decode (AM.bytes M_L_volume) 13 = .ok (.astore 4, 2) := by decide +kernel
theorem dc_L_volume_16 : decode (AM.bytes M_L_volume) 16 = .ok (.ireturn, 1) := by decide +kernel
theorem g_L_volume_h1 : ab_oks M_L_volume [(19, .iconst 2, 1, 0, 0, 0, .int (nI (2)))] = true := by decide +kernel
theorem dc_L_volume_17 : decode (AM.bytes M_L_volume) 17 = .ok (.astore 4, 2) := by decide +kernel
theorem dc_L_volume_20 : decode (AM.bytes M_L_volume) 20 = .ok (.ireturn, 1) := by decide +kernel
set_option maxRecDepth 100000 in
theorem w_volume_O {E : AE} {d : Nat} {x0 : Int32} {x1 : Int32} {r : Int32} {o0 t0 p0 m0 l0 a1 t1 p1 : List AC} {T K : Nat → Nat → Int32} {os sc : Int32} {ov : Nat → Int64} (hX : CT E M_X4_volume d [.ref 4096, .int x0, .int x1] (hp o0 (ar T K os sc) t0 p0 m0 (ou ov) l0) (.inl (some (.int r))) (hp o0 a1 t1 p1 m0 (ou ov) l0) 0 0) : CT E M_L_volume (d + 1) [.ref 4096, .int x0, .int x1, .ref 20480] (hp o0 (ar T K os sc) t0 p0 m0 (ou ov) l0) (.inl (some (.int (nI 0)))) (hp o0 a1 t1 p1 m0 (ou (vp_updL ov 0 r.toInt64)) l0) 0 0 := by
  refine CT.of (L := [some (.ref 4096), some (.int x0), some (.int x1), some (.ref 20480), none]) rfl rfl ?_
  refine AR.run g_L_volume_0 5 [some (.ref 4096), some (.int x0), some (.int x1), some (.ref 20480), none] [.int x1, .int x0, .ref 4096, .int (nI (0)), .ref 20480] _ [] rfl trivial ?_
  refine AR.callV1 (4096) [.int x0, .int x1] [.int (nI (0)), .ref 20480] lk_L_56 dc_L_volume_5 rfl rfl hX rfl rfl ?_
  refine AR.run g_L_volume_i 9 [some (.ref 4096), some (.int x0), some (.int x1), some (.ref 20480), none] [.long (r.toInt64), .int (nI (0)), .ref 20480] _ [] rfl trivial ?_
  refine AR.last (n := 0) (e := 0) (h1 := (hp o0 a1 t1 p1 m0 (ou (vp_updL ov 0 r.toInt64)) l0)) ok_L_volume_9 rfl rfl rfl (by omega) (by decide) rfl ?_
  refine AR.run g_L_volume_e 22 [some (.ref 4096), some (.int x0), some (.int x1), some (.ref 20480), none] [.int (nI (0))] _ [] rfl trivial ?_
  exact AR.retI dc_L_volume_22 rfl rfl rfl
set_option maxRecDepth 100000 in
theorem w_volume_X {E : AE} {d : Nat} {x0 : Int32} {x1 : Int32} {o0 t0 p0 m0 l0 a1 t1 p1 : List AC} {T K : Nat → Nat → Int32} {os sc : Int32} {ov : Nat → Int64} (hX : CT E M_X4_volume d [.ref 4096, .int x0, .int x1] (hp o0 (ar T K os sc) t0 p0 m0 (ou ov) l0) (.inr "java/lang/IndexOutOfBoundsException") (hp o0 a1 t1 p1 m0 (ou ov) l0) 1 6) : CT E M_L_volume (d + 1) [.ref 4096, .int x0, .int x1, .ref 20480] (hp o0 (ar T K os sc) t0 p0 m0 (ou ov) l0) (.inl (some (.int (nI 1)))) (hp o0 a1 t1 p1 m0 (ou ov) l0) 1 6 := by
  refine CT.of (L := [some (.ref 4096), some (.int x0), some (.int x1), some (.ref 20480), none]) rfl rfl ?_
  refine AR.run g_L_volume_0 5 [some (.ref 4096), some (.int x0), some (.int x1), some (.ref 20480), none] [.int x1, .int x0, .ref 4096, .int (nI (0)), .ref 20480] _ [] rfl trivial ?_
  refine AR.callVX (mc := 0) (ms := 0) (av := [.int x0, .int x1]) (rest := [.int (nI (0)), .ref 20480]) (q := 4096) lk_L_56 dc_L_volume_5 rfl rfl hX rfl rfl ?_
  refine ARX.catch (a := 4) (rs := []) (i9 := 659) [] ⟨0, 10, 13, 28⟩ [⟨0, 10, 17, 13⟩] rfl (by decide +kernel) (by decide) (by decide) (by decide +kernel) (by decide) (Or.inl dc_L_volume_13) (by decide) (tgt := 15) (Or.inl ⟨dc_L_volume_13, rfl⟩) ?_
  refine AR.run g_L_volume_h0 16 [some (.ref 4096), some (.int x0), some (.int x1), some (.ref 20480), none] [.int (nI (1))] _ [] rfl trivial ?_
  exact AR.retI dc_L_volume_16 rfl rfl rfl
set_option maxRecDepth 100000 in
theorem w_volume_A {E : AE} {d : Nat} {x0 : Int32} {x1 : Int32} {o0 t0 p0 m0 l0 a1 t1 p1 : List AC} {T K : Nat → Nat → Int32} {os sc : Int32} {ov : Nat → Int64} (hX : CT E M_X4_volume d [.ref 4096, .int x0, .int x1] (hp o0 (ar T K os sc) t0 p0 m0 (ou ov) l0) (.inr "java/lang/IllegalArgumentException") (hp o0 a1 t1 p1 m0 (ou ov) l0) 1 6) : CT E M_L_volume (d + 1) [.ref 4096, .int x0, .int x1, .ref 20480] (hp o0 (ar T K os sc) t0 p0 m0 (ou ov) l0) (.inl (some (.int (nI 2)))) (hp o0 a1 t1 p1 m0 (ou ov) l0) 1 6 := by
  refine CT.of (L := [some (.ref 4096), some (.int x0), some (.int x1), some (.ref 20480), none]) rfl rfl ?_
  refine AR.run g_L_volume_0 5 [some (.ref 4096), some (.int x0), some (.int x1), some (.ref 20480), none] [.int x1, .int x0, .ref 4096, .int (nI (0)), .ref 20480] _ [] rfl trivial ?_
  refine AR.callVX (mc := 0) (ms := 0) (av := [.int x0, .int x1]) (rest := [.int (nI (0)), .ref 20480]) (q := 4096) lk_L_56 dc_L_volume_5 rfl rfl hX rfl rfl ?_
  refine ARX.catch (a := 4) (rs := [(659, "java/lang/IndexOutOfBoundsException")]) (i9 := 523) [⟨0, 10, 13, 28⟩] ⟨0, 10, 17, 13⟩ [] rfl (by decide +kernel) (by decide) (by decide) (by decide +kernel) (by decide) (Or.inl dc_L_volume_17) (by decide) (tgt := 19) (Or.inl ⟨dc_L_volume_17, rfl⟩) ?_
  refine AR.run g_L_volume_h1 20 [some (.ref 4096), some (.int x0), some (.int x1), some (.ref 20480), none] [.int (nI (2))] _ [] rfl trivial ?_
  exact AR.retI dc_L_volume_20 rfl rfl rfl
theorem lk_L_59 : ab_lkV "LeafCradlesLaw" 59 M_X4_leaf 3 [851, 852, 853, 91, 854] = true := by decide +kernel
theorem g_L_leaf_0 : ab_oks M_L_leaf [(0, .aload 4, 2, 4, 0, 0, .null), (2, .iconst 0, 1, 0, 0, 0, .int (nI (0))), (3, .aload_n 0, 1, 0, 0, 0, .null), (4, .iload_n 1, 1, 1, 0, 0, .null), (5, .iload_n 2, 1, 2, 0, 0, .null), (6, .iload_n 3, 1, 3, 0, 0, .null)] = true := by decide +kernel
theorem g_L_leaf_i : ab_oks M_L_leaf [(10, .i2l, 1, 0, 0, 0, .null)] = true := by decide +kernel
theorem g_L_leaf_e : ab_oks M_L_leaf [(12, .goto 11, 3, 23, 0, 0, .null), (23, .iconst 0, 1, 0, 0, 0, .int (nI (0)))] = true := by decide +kernel
theorem dc_L_leaf_7 : decode (AM.bytes M_L_leaf) 7 = .ok (.invokevirtual 59, 3) := by decide +kernel
theorem ok_L_leaf_11 : ab_ok M_L_leaf (11, .lastore, 1, 0, 0, 0, .null) = true := by decide +kernel
theorem dc_L_leaf_24 : decode (AM.bytes M_L_leaf) 24 = .ok (.ireturn, 1) := by decide +kernel
theorem g_L_leaf_h0 : ab_oks M_L_leaf [(17, .iconst 1, 1, 0, 0, 0, .int (nI (1)))] = true := by decide +kernel
theorem dc_L_leaf_15 : decode (AM.bytes M_L_leaf) 15 = .ok (.astore 5, 2) := by decide +kernel
theorem dc_L_leaf_18 : decode (AM.bytes M_L_leaf) 18 = .ok (.ireturn, 1) := by decide +kernel
theorem g_L_leaf_h1 : ab_oks M_L_leaf [(21, .iconst 2, 1, 0, 0, 0, .int (nI (2)))] = true := by decide +kernel
theorem dc_L_leaf_19 : decode (AM.bytes M_L_leaf) 19 = .ok (.astore 5, 2) := by decide +kernel
theorem dc_L_leaf_22 : decode (AM.bytes M_L_leaf) 22 = .ok (.ireturn, 1) := by decide +kernel
set_option maxRecDepth 100000 in
theorem w_leaf_O {E : AE} {d : Nat} {x0 : Int32} {x1 : Int32} {x2 : Int32} {r : Int32} {o0 t0 p0 m0 l0 a1 t1 p1 : List AC} {T K : Nat → Nat → Int32} {os sc : Int32} {ov : Nat → Int64} (hX : CT E M_X4_leaf d [.ref 4096, .int x0, .int x1, .int x2] (hp o0 (ar T K os sc) t0 p0 m0 (ou ov) l0) (.inl (some (.int r))) (hp o0 a1 t1 p1 m0 (ou ov) l0) 0 0) : CT E M_L_leaf (d + 1) [.ref 4096, .int x0, .int x1, .int x2, .ref 20480] (hp o0 (ar T K os sc) t0 p0 m0 (ou ov) l0) (.inl (some (.int (nI 0)))) (hp o0 a1 t1 p1 m0 (ou (vp_updL ov 0 r.toInt64)) l0) 0 0 := by
  refine CT.of (L := [some (.ref 4096), some (.int x0), some (.int x1), some (.int x2), some (.ref 20480), none]) rfl rfl ?_
  refine AR.run g_L_leaf_0 7 [some (.ref 4096), some (.int x0), some (.int x1), some (.int x2), some (.ref 20480), none] [.int x2, .int x1, .int x0, .ref 4096, .int (nI (0)), .ref 20480] _ [] rfl trivial ?_
  refine AR.callV1 (4096) [.int x0, .int x1, .int x2] [.int (nI (0)), .ref 20480] lk_L_59 dc_L_leaf_7 rfl rfl hX rfl rfl ?_
  refine AR.run g_L_leaf_i 11 [some (.ref 4096), some (.int x0), some (.int x1), some (.int x2), some (.ref 20480), none] [.long (r.toInt64), .int (nI (0)), .ref 20480] _ [] rfl trivial ?_
  refine AR.last (n := 0) (e := 0) (h1 := (hp o0 a1 t1 p1 m0 (ou (vp_updL ov 0 r.toInt64)) l0)) ok_L_leaf_11 rfl rfl rfl (by omega) (by decide) rfl ?_
  refine AR.run g_L_leaf_e 24 [some (.ref 4096), some (.int x0), some (.int x1), some (.int x2), some (.ref 20480), none] [.int (nI (0))] _ [] rfl trivial ?_
  exact AR.retI dc_L_leaf_24 rfl rfl rfl
set_option maxRecDepth 100000 in
theorem w_leaf_X {E : AE} {d : Nat} {x0 : Int32} {x1 : Int32} {x2 : Int32} {o0 t0 p0 m0 l0 a1 t1 p1 : List AC} {T K : Nat → Nat → Int32} {os sc : Int32} {ov : Nat → Int64} (hX : CT E M_X4_leaf d [.ref 4096, .int x0, .int x1, .int x2] (hp o0 (ar T K os sc) t0 p0 m0 (ou ov) l0) (.inr "java/lang/IndexOutOfBoundsException") (hp o0 a1 t1 p1 m0 (ou ov) l0) 1 6) : CT E M_L_leaf (d + 1) [.ref 4096, .int x0, .int x1, .int x2, .ref 20480] (hp o0 (ar T K os sc) t0 p0 m0 (ou ov) l0) (.inl (some (.int (nI 1)))) (hp o0 a1 t1 p1 m0 (ou ov) l0) 1 6 := by
  refine CT.of (L := [some (.ref 4096), some (.int x0), some (.int x1), some (.int x2), some (.ref 20480), none]) rfl rfl ?_
  refine AR.run g_L_leaf_0 7 [some (.ref 4096), some (.int x0), some (.int x1), some (.int x2), some (.ref 20480), none] [.int x2, .int x1, .int x0, .ref 4096, .int (nI (0)), .ref 20480] _ [] rfl trivial ?_
  refine AR.callVX (mc := 0) (ms := 0) (av := [.int x0, .int x1, .int x2]) (rest := [.int (nI (0)), .ref 20480]) (q := 4096) lk_L_59 dc_L_leaf_7 rfl rfl hX rfl rfl ?_
  refine ARX.catch (a := 5) (rs := []) (i9 := 659) [] ⟨0, 12, 15, 28⟩ [⟨0, 12, 19, 13⟩] rfl (by decide +kernel) (by decide) (by decide) (by decide +kernel) (by decide) (Or.inl dc_L_leaf_15) (by decide) (tgt := 17) (Or.inl ⟨dc_L_leaf_15, rfl⟩) ?_
  refine AR.run g_L_leaf_h0 18 [some (.ref 4096), some (.int x0), some (.int x1), some (.int x2), some (.ref 20480), none] [.int (nI (1))] _ [] rfl trivial ?_
  exact AR.retI dc_L_leaf_18 rfl rfl rfl
set_option maxRecDepth 100000 in
theorem w_leaf_A {E : AE} {d : Nat} {x0 : Int32} {x1 : Int32} {x2 : Int32} {o0 t0 p0 m0 l0 a1 t1 p1 : List AC} {T K : Nat → Nat → Int32} {os sc : Int32} {ov : Nat → Int64} (hX : CT E M_X4_leaf d [.ref 4096, .int x0, .int x1, .int x2] (hp o0 (ar T K os sc) t0 p0 m0 (ou ov) l0) (.inr "java/lang/IllegalArgumentException") (hp o0 a1 t1 p1 m0 (ou ov) l0) 1 6) : CT E M_L_leaf (d + 1) [.ref 4096, .int x0, .int x1, .int x2, .ref 20480] (hp o0 (ar T K os sc) t0 p0 m0 (ou ov) l0) (.inl (some (.int (nI 2)))) (hp o0 a1 t1 p1 m0 (ou ov) l0) 1 6 := by
  refine CT.of (L := [some (.ref 4096), some (.int x0), some (.int x1), some (.int x2), some (.ref 20480), none]) rfl rfl ?_
  refine AR.run g_L_leaf_0 7 [some (.ref 4096), some (.int x0), some (.int x1), some (.int x2), some (.ref 20480), none] [.int x2, .int x1, .int x0, .ref 4096, .int (nI (0)), .ref 20480] _ [] rfl trivial ?_
  refine AR.callVX (mc := 0) (ms := 0) (av := [.int x0, .int x1, .int x2]) (rest := [.int (nI (0)), .ref 20480]) (q := 4096) lk_L_59 dc_L_leaf_7 rfl rfl hX rfl rfl ?_
  refine ARX.catch (a := 5) (rs := [(659, "java/lang/IndexOutOfBoundsException")]) (i9 := 523) [⟨0, 12, 15, 28⟩] ⟨0, 12, 19, 13⟩ [] rfl (by decide +kernel) (by decide) (by decide) (by decide +kernel) (by decide) (Or.inl dc_L_leaf_19) (by decide) (tgt := 21) (Or.inl ⟨dc_L_leaf_19, rfl⟩) ?_
  refine AR.run g_L_leaf_h1 22 [some (.ref 4096), some (.int x0), some (.int x1), some (.int x2), some (.ref 20480), none] [.int (nI (2))] _ [] rfl trivial ?_
  exact AR.retI dc_L_leaf_22 rfl rfl rfl
theorem lk_L_62 : ab_lkV "LeafCradlesLaw" 62 M_X4_cradle 2 [858, 859, 860, 91, 861] = true := by decide +kernel
theorem g_L_cradle_0 : ab_oks M_L_cradle [(0, .aload_n 3, 1, 3, 0, 0, .null), (1, .iconst 0, 1, 0, 0, 0, .int (nI (0))), (2, .aload_n 0, 1, 0, 0, 0, .null), (3, .iload_n 1, 1, 1, 0, 0, .null), (4, .iload_n 2, 1, 2, 0, 0, .null)] = true := by decide +kernel
theorem g_L_cradle_i : ab_oks M_L_cradle [(8, .i2l, 1, 0, 0, 0, .null)] = true := by decide +kernel
theorem g_L_cradle_e : ab_oks M_L_cradle [(10, .goto 11, 3, 21, 0, 0, .null), (21, .iconst 0, 1, 0, 0, 0, .int (nI (0)))] = true := by decide +kernel
theorem dc_L_cradle_5 : decode (AM.bytes M_L_cradle) 5 = .ok (.invokevirtual 62, 3) := by decide +kernel
theorem ok_L_cradle_9 : ab_ok M_L_cradle (9, .lastore, 1, 0, 0, 0, .null) = true := by decide +kernel
theorem dc_L_cradle_22 : decode (AM.bytes M_L_cradle) 22 = .ok (.ireturn, 1) := by decide +kernel
theorem g_L_cradle_h0 : ab_oks M_L_cradle [(15, .iconst 1, 1, 0, 0, 0, .int (nI (1)))] = true := by decide +kernel
theorem dc_L_cradle_13 : decode (AM.bytes M_L_cradle) 13 = .ok (.astore 4, 2) := by decide +kernel
theorem dc_L_cradle_16 : decode (AM.bytes M_L_cradle) 16 = .ok (.ireturn, 1) := by decide +kernel
theorem g_L_cradle_h1 : ab_oks M_L_cradle [(19, .iconst 2, 1, 0, 0, 0, .int (nI (2)))] = true := by decide +kernel
theorem dc_L_cradle_17 : decode (AM.bytes M_L_cradle) 17 = .ok (.astore 4, 2) := by decide +kernel
theorem dc_L_cradle_20 : decode (AM.bytes M_L_cradle) 20 = .ok (.ireturn, 1) := by decide +kernel
set_option maxRecDepth 100000 in
theorem w_cradle_O {E : AE} {d : Nat} {x0 : Int32} {x1 : Int32} {r : Int32} {o0 t0 p0 m0 l0 a1 t1 p1 : List AC} {T K : Nat → Nat → Int32} {os sc : Int32} {ov : Nat → Int64} (hX : CT E M_X4_cradle d [.ref 4096, .int x0, .int x1] (hp o0 (ar T K os sc) t0 p0 m0 (ou ov) l0) (.inl (some (.int r))) (hp o0 a1 t1 p1 m0 (ou ov) l0) 0 0) : CT E M_L_cradle (d + 1) [.ref 4096, .int x0, .int x1, .ref 20480] (hp o0 (ar T K os sc) t0 p0 m0 (ou ov) l0) (.inl (some (.int (nI 0)))) (hp o0 a1 t1 p1 m0 (ou (vp_updL ov 0 r.toInt64)) l0) 0 0 := by
  refine CT.of (L := [some (.ref 4096), some (.int x0), some (.int x1), some (.ref 20480), none]) rfl rfl ?_
  refine AR.run g_L_cradle_0 5 [some (.ref 4096), some (.int x0), some (.int x1), some (.ref 20480), none] [.int x1, .int x0, .ref 4096, .int (nI (0)), .ref 20480] _ [] rfl trivial ?_
  refine AR.callV1 (4096) [.int x0, .int x1] [.int (nI (0)), .ref 20480] lk_L_62 dc_L_cradle_5 rfl rfl hX rfl rfl ?_
  refine AR.run g_L_cradle_i 9 [some (.ref 4096), some (.int x0), some (.int x1), some (.ref 20480), none] [.long (r.toInt64), .int (nI (0)), .ref 20480] _ [] rfl trivial ?_
  refine AR.last (n := 0) (e := 0) (h1 := (hp o0 a1 t1 p1 m0 (ou (vp_updL ov 0 r.toInt64)) l0)) ok_L_cradle_9 rfl rfl rfl (by omega) (by decide) rfl ?_
  refine AR.run g_L_cradle_e 22 [some (.ref 4096), some (.int x0), some (.int x1), some (.ref 20480), none] [.int (nI (0))] _ [] rfl trivial ?_
  exact AR.retI dc_L_cradle_22 rfl rfl rfl
set_option maxRecDepth 100000 in
theorem w_cradle_X {E : AE} {d : Nat} {x0 : Int32} {x1 : Int32} {o0 t0 p0 m0 l0 a1 t1 p1 : List AC} {T K : Nat → Nat → Int32} {os sc : Int32} {ov : Nat → Int64} (hX : CT E M_X4_cradle d [.ref 4096, .int x0, .int x1] (hp o0 (ar T K os sc) t0 p0 m0 (ou ov) l0) (.inr "java/lang/IndexOutOfBoundsException") (hp o0 a1 t1 p1 m0 (ou ov) l0) 1 6) : CT E M_L_cradle (d + 1) [.ref 4096, .int x0, .int x1, .ref 20480] (hp o0 (ar T K os sc) t0 p0 m0 (ou ov) l0) (.inl (some (.int (nI 1)))) (hp o0 a1 t1 p1 m0 (ou ov) l0) 1 6 := by
  refine CT.of (L := [some (.ref 4096), some (.int x0), some (.int x1), some (.ref 20480), none]) rfl rfl ?_
  refine AR.run g_L_cradle_0 5 [some (.ref 4096), some (.int x0), some (.int x1), some (.ref 20480), none] [.int x1, .int x0, .ref 4096, .int (nI (0)), .ref 20480] _ [] rfl trivial ?_
  refine AR.callVX (mc := 0) (ms := 0) (av := [.int x0, .int x1]) (rest := [.int (nI (0)), .ref 20480]) (q := 4096) lk_L_62 dc_L_cradle_5 rfl rfl hX rfl rfl ?_
  refine ARX.catch (a := 4) (rs := []) (i9 := 659) [] ⟨0, 10, 13, 28⟩ [⟨0, 10, 17, 13⟩] rfl (by decide +kernel) (by decide) (by decide) (by decide +kernel) (by decide) (Or.inl dc_L_cradle_13) (by decide) (tgt := 15) (Or.inl ⟨dc_L_cradle_13, rfl⟩) ?_
  refine AR.run g_L_cradle_h0 16 [some (.ref 4096), some (.int x0), some (.int x1), some (.ref 20480), none] [.int (nI (1))] _ [] rfl trivial ?_
  exact AR.retI dc_L_cradle_16 rfl rfl rfl
set_option maxRecDepth 100000 in
theorem w_cradle_A {E : AE} {d : Nat} {x0 : Int32} {x1 : Int32} {o0 t0 p0 m0 l0 a1 t1 p1 : List AC} {T K : Nat → Nat → Int32} {os sc : Int32} {ov : Nat → Int64} (hX : CT E M_X4_cradle d [.ref 4096, .int x0, .int x1] (hp o0 (ar T K os sc) t0 p0 m0 (ou ov) l0) (.inr "java/lang/IllegalArgumentException") (hp o0 a1 t1 p1 m0 (ou ov) l0) 1 6) : CT E M_L_cradle (d + 1) [.ref 4096, .int x0, .int x1, .ref 20480] (hp o0 (ar T K os sc) t0 p0 m0 (ou ov) l0) (.inl (some (.int (nI 2)))) (hp o0 a1 t1 p1 m0 (ou ov) l0) 1 6 := by
  refine CT.of (L := [some (.ref 4096), some (.int x0), some (.int x1), some (.ref 20480), none]) rfl rfl ?_
  refine AR.run g_L_cradle_0 5 [some (.ref 4096), some (.int x0), some (.int x1), some (.ref 20480), none] [.int x1, .int x0, .ref 4096, .int (nI (0)), .ref 20480] _ [] rfl trivial ?_
  refine AR.callVX (mc := 0) (ms := 0) (av := [.int x0, .int x1]) (rest := [.int (nI (0)), .ref 20480]) (q := 4096) lk_L_62 dc_L_cradle_5 rfl rfl hX rfl rfl ?_
  refine ARX.catch (a := 4) (rs := [(659, "java/lang/IndexOutOfBoundsException")]) (i9 := 523) [⟨0, 10, 13, 28⟩] ⟨0, 10, 17, 13⟩ [] rfl (by decide +kernel) (by decide) (by decide) (by decide +kernel) (by decide) (Or.inl dc_L_cradle_17) (by decide) (tgt := 19) (Or.inl ⟨dc_L_cradle_17, rfl⟩) ?_
  refine AR.run g_L_cradle_h1 20 [some (.ref 4096), some (.int x0), some (.int x1), some (.ref 20480), none] [.int (nI (2))] _ [] rfl trivial ?_
  exact AR.retI dc_L_cradle_20 rfl rfl rfl
theorem lk_L_65 : ab_lkV "LeafCradlesLaw" 65 M_X4_carrier 2 [865, 866, 867, 91, 868] = true := by decide +kernel
theorem g_L_carrier_0 : ab_oks M_L_carrier [(0, .aload_n 3, 1, 3, 0, 0, .null), (1, .iconst 0, 1, 0, 0, 0, .int (nI (0))), (2, .aload_n 0, 1, 0, 0, 0, .null), (3, .iload_n 1, 1, 1, 0, 0, .null), (4, .iload_n 2, 1, 2, 0, 0, .null)] = true := by decide +kernel
theorem g_L_carrier_i : ab_oks M_L_carrier [(8, .i2l, 1, 0, 0, 0, .null)] = true := by decide +kernel
theorem g_L_carrier_e : ab_oks M_L_carrier [(10, .goto 11, 3, 21, 0, 0, .null), (21, .iconst 0, 1, 0, 0, 0, .int (nI (0)))] = true := by decide +kernel
theorem dc_L_carrier_5 : decode (AM.bytes M_L_carrier) 5 = .ok (.invokevirtual 65, 3) := by decide +kernel
theorem ok_L_carrier_9 : ab_ok M_L_carrier (9, .lastore, 1, 0, 0, 0, .null) = true := by decide +kernel
theorem dc_L_carrier_22 : decode (AM.bytes M_L_carrier) 22 = .ok (.ireturn, 1) := by decide +kernel
theorem g_L_carrier_h0 : ab_oks M_L_carrier [(15, .iconst 1, 1, 0, 0, 0, .int (nI (1)))] = true := by decide +kernel
theorem dc_L_carrier_13 : decode (AM.bytes M_L_carrier) 13 = .ok (.astore 4, 2) := by decide +kernel
theorem dc_L_carrier_16 : decode (AM.bytes M_L_carrier) 16 = .ok (.ireturn, 1) := by decide +kernel
theorem g_L_carrier_h1 : ab_oks M_L_carrier [(19, .iconst 2, 1, 0, 0, 0, .int (nI (2)))] = true := by decide +kernel
theorem dc_L_carrier_17 : decode (AM.bytes M_L_carrier) 17 = .ok (.astore 4, 2) := by decide +kernel
theorem dc_L_carrier_20 : decode (AM.bytes M_L_carrier) 20 = .ok (.ireturn, 1) := by decide +kernel
set_option maxRecDepth 100000 in
theorem w_carrier_O {E : AE} {d : Nat} {x0 : Int32} {x1 : Int32} {r : Int32} {o0 t0 p0 m0 l0 a1 t1 p1 : List AC} {T K : Nat → Nat → Int32} {os sc : Int32} {ov : Nat → Int64} (hX : CT E M_X4_carrier d [.ref 4096, .int x0, .int x1] (hp o0 (ar T K os sc) t0 p0 m0 (ou ov) l0) (.inl (some (.int r))) (hp o0 a1 t1 p1 m0 (ou ov) l0) 0 0) : CT E M_L_carrier (d + 1) [.ref 4096, .int x0, .int x1, .ref 20480] (hp o0 (ar T K os sc) t0 p0 m0 (ou ov) l0) (.inl (some (.int (nI 0)))) (hp o0 a1 t1 p1 m0 (ou (vp_updL ov 0 r.toInt64)) l0) 0 0 := by
  refine CT.of (L := [some (.ref 4096), some (.int x0), some (.int x1), some (.ref 20480), none]) rfl rfl ?_
  refine AR.run g_L_carrier_0 5 [some (.ref 4096), some (.int x0), some (.int x1), some (.ref 20480), none] [.int x1, .int x0, .ref 4096, .int (nI (0)), .ref 20480] _ [] rfl trivial ?_
  refine AR.callV1 (4096) [.int x0, .int x1] [.int (nI (0)), .ref 20480] lk_L_65 dc_L_carrier_5 rfl rfl hX rfl rfl ?_
  refine AR.run g_L_carrier_i 9 [some (.ref 4096), some (.int x0), some (.int x1), some (.ref 20480), none] [.long (r.toInt64), .int (nI (0)), .ref 20480] _ [] rfl trivial ?_
  refine AR.last (n := 0) (e := 0) (h1 := (hp o0 a1 t1 p1 m0 (ou (vp_updL ov 0 r.toInt64)) l0)) ok_L_carrier_9 rfl rfl rfl (by omega) (by decide) rfl ?_
  refine AR.run g_L_carrier_e 22 [some (.ref 4096), some (.int x0), some (.int x1), some (.ref 20480), none] [.int (nI (0))] _ [] rfl trivial ?_
  exact AR.retI dc_L_carrier_22 rfl rfl rfl
set_option maxRecDepth 100000 in
theorem w_carrier_X {E : AE} {d : Nat} {x0 : Int32} {x1 : Int32} {o0 t0 p0 m0 l0 a1 t1 p1 : List AC} {T K : Nat → Nat → Int32} {os sc : Int32} {ov : Nat → Int64} (hX : CT E M_X4_carrier d [.ref 4096, .int x0, .int x1] (hp o0 (ar T K os sc) t0 p0 m0 (ou ov) l0) (.inr "java/lang/IndexOutOfBoundsException") (hp o0 a1 t1 p1 m0 (ou ov) l0) 1 6) : CT E M_L_carrier (d + 1) [.ref 4096, .int x0, .int x1, .ref 20480] (hp o0 (ar T K os sc) t0 p0 m0 (ou ov) l0) (.inl (some (.int (nI 1)))) (hp o0 a1 t1 p1 m0 (ou ov) l0) 1 6 := by
  refine CT.of (L := [some (.ref 4096), some (.int x0), some (.int x1), some (.ref 20480), none]) rfl rfl ?_
  refine AR.run g_L_carrier_0 5 [some (.ref 4096), some (.int x0), some (.int x1), some (.ref 20480), none] [.int x1, .int x0, .ref 4096, .int (nI (0)), .ref 20480] _ [] rfl trivial ?_
  refine AR.callVX (mc := 0) (ms := 0) (av := [.int x0, .int x1]) (rest := [.int (nI (0)), .ref 20480]) (q := 4096) lk_L_65 dc_L_carrier_5 rfl rfl hX rfl rfl ?_
  refine ARX.catch (a := 4) (rs := []) (i9 := 659) [] ⟨0, 10, 13, 28⟩ [⟨0, 10, 17, 13⟩] rfl (by decide +kernel) (by decide) (by decide) (by decide +kernel) (by decide) (Or.inl dc_L_carrier_13) (by decide) (tgt := 15) (Or.inl ⟨dc_L_carrier_13, rfl⟩) ?_
  refine AR.run g_L_carrier_h0 16 [some (.ref 4096), some (.int x0), some (.int x1), some (.ref 20480), none] [.int (nI (1))] _ [] rfl trivial ?_
  exact AR.retI dc_L_carrier_16 rfl rfl rfl
set_option maxRecDepth 100000 in
theorem w_carrier_A {E : AE} {d : Nat} {x0 : Int32} {x1 : Int32} {o0 t0 p0 m0 l0 a1 t1 p1 : List AC} {T K : Nat → Nat → Int32} {os sc : Int32} {ov : Nat → Int64} (hX : CT E M_X4_carrier d [.ref 4096, .int x0, .int x1] (hp o0 (ar T K os sc) t0 p0 m0 (ou ov) l0) (.inr "java/lang/IllegalArgumentException") (hp o0 a1 t1 p1 m0 (ou ov) l0) 1 6) : CT E M_L_carrier (d + 1) [.ref 4096, .int x0, .int x1, .ref 20480] (hp o0 (ar T K os sc) t0 p0 m0 (ou ov) l0) (.inl (some (.int (nI 2)))) (hp o0 a1 t1 p1 m0 (ou ov) l0) 1 6 := by
  refine CT.of (L := [some (.ref 4096), some (.int x0), some (.int x1), some (.ref 20480), none]) rfl rfl ?_
  refine AR.run g_L_carrier_0 5 [some (.ref 4096), some (.int x0), some (.int x1), some (.ref 20480), none] [.int x1, .int x0, .ref 4096, .int (nI (0)), .ref 20480] _ [] rfl trivial ?_
  refine AR.callVX (mc := 0) (ms := 0) (av := [.int x0, .int x1]) (rest := [.int (nI (0)), .ref 20480]) (q := 4096) lk_L_65 dc_L_carrier_5 rfl rfl hX rfl rfl ?_
  refine ARX.catch (a := 4) (rs := [(659, "java/lang/IndexOutOfBoundsException")]) (i9 := 523) [⟨0, 10, 13, 28⟩] ⟨0, 10, 17, 13⟩ [] rfl (by decide +kernel) (by decide) (by decide) (by decide +kernel) (by decide) (Or.inl dc_L_carrier_17) (by decide) (tgt := 19) (Or.inl ⟨dc_L_carrier_17, rfl⟩) ?_
  refine AR.run g_L_carrier_h1 20 [some (.ref 4096), some (.int x0), some (.int x1), some (.ref 20480), none] [.int (nI (2))] _ [] rfl trivial ?_
  exact AR.retI dc_L_carrier_20 rfl rfl rfl
theorem lk_L_68 : ab_lkV "LeafCradlesLaw" 68 M_X4_log 2 [872, 873, 874, 91, 875] = true := by decide +kernel
theorem g_L_log_0 : ab_oks M_L_log [(0, .aload_n 3, 1, 3, 0, 0, .null), (1, .iconst 0, 1, 0, 0, 0, .int (nI (0))), (2, .aload_n 0, 1, 0, 0, 0, .null), (3, .iload_n 1, 1, 1, 0, 0, .null), (4, .iload_n 2, 1, 2, 0, 0, .null)] = true := by decide +kernel
theorem g_L_log_i : ab_oks M_L_log [(8, .i2l, 1, 0, 0, 0, .null)] = true := by decide +kernel
theorem g_L_log_e : ab_oks M_L_log [(10, .goto 11, 3, 21, 0, 0, .null), (21, .iconst 0, 1, 0, 0, 0, .int (nI (0)))] = true := by decide +kernel
theorem dc_L_log_5 : decode (AM.bytes M_L_log) 5 = .ok (.invokevirtual 68, 3) := by decide +kernel
theorem ok_L_log_9 : ab_ok M_L_log (9, .lastore, 1, 0, 0, 0, .null) = true := by decide +kernel
theorem dc_L_log_22 : decode (AM.bytes M_L_log) 22 = .ok (.ireturn, 1) := by decide +kernel
theorem g_L_log_h0 : ab_oks M_L_log [(15, .iconst 1, 1, 0, 0, 0, .int (nI (1)))] = true := by decide +kernel
theorem dc_L_log_13 : decode (AM.bytes M_L_log) 13 = .ok (.astore 4, 2) := by decide +kernel
theorem dc_L_log_16 : decode (AM.bytes M_L_log) 16 = .ok (.ireturn, 1) := by decide +kernel
theorem g_L_log_h1 : ab_oks M_L_log [(19, .iconst 2, 1, 0, 0, 0, .int (nI (2)))] = true := by decide +kernel
theorem dc_L_log_17 : decode (AM.bytes M_L_log) 17 = .ok (.astore 4, 2) := by decide +kernel
theorem dc_L_log_20 : decode (AM.bytes M_L_log) 20 = .ok (.ireturn, 1) := by decide +kernel
set_option maxRecDepth 100000 in
theorem w_log_O {E : AE} {d : Nat} {x0 : Int32} {x1 : Int32} {r : Int32} {o0 t0 p0 m0 l0 a1 t1 p1 : List AC} {T K : Nat → Nat → Int32} {os sc : Int32} {ov : Nat → Int64} (hX : CT E M_X4_log d [.ref 4096, .int x0, .int x1] (hp o0 (ar T K os sc) t0 p0 m0 (ou ov) l0) (.inl (some (.int r))) (hp o0 a1 t1 p1 m0 (ou ov) l0) 0 0) : CT E M_L_log (d + 1) [.ref 4096, .int x0, .int x1, .ref 20480] (hp o0 (ar T K os sc) t0 p0 m0 (ou ov) l0) (.inl (some (.int (nI 0)))) (hp o0 a1 t1 p1 m0 (ou (vp_updL ov 0 r.toInt64)) l0) 0 0 := by
  refine CT.of (L := [some (.ref 4096), some (.int x0), some (.int x1), some (.ref 20480), none]) rfl rfl ?_
  refine AR.run g_L_log_0 5 [some (.ref 4096), some (.int x0), some (.int x1), some (.ref 20480), none] [.int x1, .int x0, .ref 4096, .int (nI (0)), .ref 20480] _ [] rfl trivial ?_
  refine AR.callV1 (4096) [.int x0, .int x1] [.int (nI (0)), .ref 20480] lk_L_68 dc_L_log_5 rfl rfl hX rfl rfl ?_
  refine AR.run g_L_log_i 9 [some (.ref 4096), some (.int x0), some (.int x1), some (.ref 20480), none] [.long (r.toInt64), .int (nI (0)), .ref 20480] _ [] rfl trivial ?_
  refine AR.last (n := 0) (e := 0) (h1 := (hp o0 a1 t1 p1 m0 (ou (vp_updL ov 0 r.toInt64)) l0)) ok_L_log_9 rfl rfl rfl (by omega) (by decide) rfl ?_
  refine AR.run g_L_log_e 22 [some (.ref 4096), some (.int x0), some (.int x1), some (.ref 20480), none] [.int (nI (0))] _ [] rfl trivial ?_
  exact AR.retI dc_L_log_22 rfl rfl rfl
set_option maxRecDepth 100000 in
theorem w_log_X {E : AE} {d : Nat} {x0 : Int32} {x1 : Int32} {o0 t0 p0 m0 l0 a1 t1 p1 : List AC} {T K : Nat → Nat → Int32} {os sc : Int32} {ov : Nat → Int64} (hX : CT E M_X4_log d [.ref 4096, .int x0, .int x1] (hp o0 (ar T K os sc) t0 p0 m0 (ou ov) l0) (.inr "java/lang/IndexOutOfBoundsException") (hp o0 a1 t1 p1 m0 (ou ov) l0) 1 6) : CT E M_L_log (d + 1) [.ref 4096, .int x0, .int x1, .ref 20480] (hp o0 (ar T K os sc) t0 p0 m0 (ou ov) l0) (.inl (some (.int (nI 1)))) (hp o0 a1 t1 p1 m0 (ou ov) l0) 1 6 := by
  refine CT.of (L := [some (.ref 4096), some (.int x0), some (.int x1), some (.ref 20480), none]) rfl rfl ?_
  refine AR.run g_L_log_0 5 [some (.ref 4096), some (.int x0), some (.int x1), some (.ref 20480), none] [.int x1, .int x0, .ref 4096, .int (nI (0)), .ref 20480] _ [] rfl trivial ?_
  refine AR.callVX (mc := 0) (ms := 0) (av := [.int x0, .int x1]) (rest := [.int (nI (0)), .ref 20480]) (q := 4096) lk_L_68 dc_L_log_5 rfl rfl hX rfl rfl ?_
  refine ARX.catch (a := 4) (rs := []) (i9 := 659) [] ⟨0, 10, 13, 28⟩ [⟨0, 10, 17, 13⟩] rfl (by decide +kernel) (by decide) (by decide) (by decide +kernel) (by decide) (Or.inl dc_L_log_13) (by decide) (tgt := 15) (Or.inl ⟨dc_L_log_13, rfl⟩) ?_
  refine AR.run g_L_log_h0 16 [some (.ref 4096), some (.int x0), some (.int x1), some (.ref 20480), none] [.int (nI (1))] _ [] rfl trivial ?_
  exact AR.retI dc_L_log_16 rfl rfl rfl
set_option maxRecDepth 100000 in
theorem w_log_A {E : AE} {d : Nat} {x0 : Int32} {x1 : Int32} {o0 t0 p0 m0 l0 a1 t1 p1 : List AC} {T K : Nat → Nat → Int32} {os sc : Int32} {ov : Nat → Int64} (hX : CT E M_X4_log d [.ref 4096, .int x0, .int x1] (hp o0 (ar T K os sc) t0 p0 m0 (ou ov) l0) (.inr "java/lang/IllegalArgumentException") (hp o0 a1 t1 p1 m0 (ou ov) l0) 1 6) : CT E M_L_log (d + 1) [.ref 4096, .int x0, .int x1, .ref 20480] (hp o0 (ar T K os sc) t0 p0 m0 (ou ov) l0) (.inl (some (.int (nI 2)))) (hp o0 a1 t1 p1 m0 (ou ov) l0) 1 6 := by
  refine CT.of (L := [some (.ref 4096), some (.int x0), some (.int x1), some (.ref 20480), none]) rfl rfl ?_
  refine AR.run g_L_log_0 5 [some (.ref 4096), some (.int x0), some (.int x1), some (.ref 20480), none] [.int x1, .int x0, .ref 4096, .int (nI (0)), .ref 20480] _ [] rfl trivial ?_
  refine AR.callVX (mc := 0) (ms := 0) (av := [.int x0, .int x1]) (rest := [.int (nI (0)), .ref 20480]) (q := 4096) lk_L_68 dc_L_log_5 rfl rfl hX rfl rfl ?_
  refine ARX.catch (a := 4) (rs := [(659, "java/lang/IndexOutOfBoundsException")]) (i9 := 523) [⟨0, 10, 13, 28⟩] ⟨0, 10, 17, 13⟩ [] rfl (by decide +kernel) (by decide) (by decide) (by decide +kernel) (by decide) (Or.inl dc_L_log_17) (by decide) (tgt := 19) (Or.inl ⟨dc_L_log_17, rfl⟩) ?_
  refine AR.run g_L_log_h1 20 [some (.ref 4096), some (.int x0), some (.int x1), some (.ref 20480), none] [.int (nI (2))] _ [] rfl trivial ?_
  exact AR.retI dc_L_log_20 rfl rfl rfl
theorem lk_L_71 : ab_lkV "LeafCradlesLaw" 71 M_X4_whereAt 2 [879, 880, 881, 91, 882] = true := by decide +kernel
theorem g_L_whereAt_0 : ab_oks M_L_whereAt [(0, .aload_n 3, 1, 3, 0, 0, .null), (1, .iconst 0, 1, 0, 0, 0, .int (nI (0))), (2, .aload_n 0, 1, 0, 0, 0, .null), (3, .iload_n 1, 1, 1, 0, 0, .null), (4, .iload_n 2, 1, 2, 0, 0, .null)] = true := by decide +kernel
theorem g_L_whereAt_i : ab_oks M_L_whereAt [(8, .i2l, 1, 0, 0, 0, .null)] = true := by decide +kernel
theorem g_L_whereAt_e : ab_oks M_L_whereAt [(10, .goto 11, 3, 21, 0, 0, .null), (21, .iconst 0, 1, 0, 0, 0, .int (nI (0)))] = true := by decide +kernel
theorem dc_L_whereAt_5 : decode (AM.bytes M_L_whereAt) 5 = .ok (.invokevirtual 71, 3) := by decide +kernel
theorem ok_L_whereAt_9 : ab_ok M_L_whereAt (9, .lastore, 1, 0, 0, 0, .null) = true := by decide +kernel
theorem dc_L_whereAt_22 : decode (AM.bytes M_L_whereAt) 22 = .ok (.ireturn, 1) := by decide +kernel
theorem g_L_whereAt_h0 : ab_oks M_L_whereAt [(15, .iconst 1, 1, 0, 0, 0, .int (nI (1)))] = true := by decide +kernel
theorem dc_L_whereAt_13 : decode (AM.bytes M_L_whereAt) 13 = .ok (.astore 4, 2) := by decide +kernel
theorem dc_L_whereAt_16 : decode (AM.bytes M_L_whereAt) 16 = .ok (.ireturn, 1) := by decide +kernel
theorem g_L_whereAt_h1 : ab_oks M_L_whereAt [(19, .iconst 2, 1, 0, 0, 0, .int (nI (2)))] = true := by decide +kernel
theorem dc_L_whereAt_17 : decode (AM.bytes M_L_whereAt) 17 = .ok (.astore 4, 2) := by decide +kernel
theorem dc_L_whereAt_20 : decode (AM.bytes M_L_whereAt) 20 = .ok (.ireturn, 1) := by decide +kernel
set_option maxRecDepth 100000 in
theorem w_whereAt_O {E : AE} {d : Nat} {x0 : Int32} {x1 : Int32} {r : Int32} {o0 t0 p0 m0 l0 a1 t1 p1 : List AC} {T K : Nat → Nat → Int32} {os sc : Int32} {ov : Nat → Int64} (hX : CT E M_X4_whereAt d [.ref 4096, .int x0, .int x1] (hp o0 (ar T K os sc) t0 p0 m0 (ou ov) l0) (.inl (some (.int r))) (hp o0 a1 t1 p1 m0 (ou ov) l0) 0 0) : CT E M_L_whereAt (d + 1) [.ref 4096, .int x0, .int x1, .ref 20480] (hp o0 (ar T K os sc) t0 p0 m0 (ou ov) l0) (.inl (some (.int (nI 0)))) (hp o0 a1 t1 p1 m0 (ou (vp_updL ov 0 r.toInt64)) l0) 0 0 := by
  refine CT.of (L := [some (.ref 4096), some (.int x0), some (.int x1), some (.ref 20480), none]) rfl rfl ?_
  refine AR.run g_L_whereAt_0 5 [some (.ref 4096), some (.int x0), some (.int x1), some (.ref 20480), none] [.int x1, .int x0, .ref 4096, .int (nI (0)), .ref 20480] _ [] rfl trivial ?_
  refine AR.callV1 (4096) [.int x0, .int x1] [.int (nI (0)), .ref 20480] lk_L_71 dc_L_whereAt_5 rfl rfl hX rfl rfl ?_
  refine AR.run g_L_whereAt_i 9 [some (.ref 4096), some (.int x0), some (.int x1), some (.ref 20480), none] [.long (r.toInt64), .int (nI (0)), .ref 20480] _ [] rfl trivial ?_
  refine AR.last (n := 0) (e := 0) (h1 := (hp o0 a1 t1 p1 m0 (ou (vp_updL ov 0 r.toInt64)) l0)) ok_L_whereAt_9 rfl rfl rfl (by omega) (by decide) rfl ?_
  refine AR.run g_L_whereAt_e 22 [some (.ref 4096), some (.int x0), some (.int x1), some (.ref 20480), none] [.int (nI (0))] _ [] rfl trivial ?_
  exact AR.retI dc_L_whereAt_22 rfl rfl rfl
set_option maxRecDepth 100000 in
theorem w_whereAt_X {E : AE} {d : Nat} {x0 : Int32} {x1 : Int32} {o0 t0 p0 m0 l0 a1 t1 p1 : List AC} {T K : Nat → Nat → Int32} {os sc : Int32} {ov : Nat → Int64} (hX : CT E M_X4_whereAt d [.ref 4096, .int x0, .int x1] (hp o0 (ar T K os sc) t0 p0 m0 (ou ov) l0) (.inr "java/lang/IndexOutOfBoundsException") (hp o0 a1 t1 p1 m0 (ou ov) l0) 1 6) : CT E M_L_whereAt (d + 1) [.ref 4096, .int x0, .int x1, .ref 20480] (hp o0 (ar T K os sc) t0 p0 m0 (ou ov) l0) (.inl (some (.int (nI 1)))) (hp o0 a1 t1 p1 m0 (ou ov) l0) 1 6 := by
  refine CT.of (L := [some (.ref 4096), some (.int x0), some (.int x1), some (.ref 20480), none]) rfl rfl ?_
  refine AR.run g_L_whereAt_0 5 [some (.ref 4096), some (.int x0), some (.int x1), some (.ref 20480), none] [.int x1, .int x0, .ref 4096, .int (nI (0)), .ref 20480] _ [] rfl trivial ?_
  refine AR.callVX (mc := 0) (ms := 0) (av := [.int x0, .int x1]) (rest := [.int (nI (0)), .ref 20480]) (q := 4096) lk_L_71 dc_L_whereAt_5 rfl rfl hX rfl rfl ?_
  refine ARX.catch (a := 4) (rs := []) (i9 := 659) [] ⟨0, 10, 13, 28⟩ [⟨0, 10, 17, 13⟩] rfl (by decide +kernel) (by decide) (by decide) (by decide +kernel) (by decide) (Or.inl dc_L_whereAt_13) (by decide) (tgt := 15) (Or.inl ⟨dc_L_whereAt_13, rfl⟩) ?_
  refine AR.run g_L_whereAt_h0 16 [some (.ref 4096), some (.int x0), some (.int x1), some (.ref 20480), none] [.int (nI (1))] _ [] rfl trivial ?_
  exact AR.retI dc_L_whereAt_16 rfl rfl rfl
set_option maxRecDepth 100000 in
theorem w_whereAt_A {E : AE} {d : Nat} {x0 : Int32} {x1 : Int32} {o0 t0 p0 m0 l0 a1 t1 p1 : List AC} {T K : Nat → Nat → Int32} {os sc : Int32} {ov : Nat → Int64} (hX : CT E M_X4_whereAt d [.ref 4096, .int x0, .int x1] (hp o0 (ar T K os sc) t0 p0 m0 (ou ov) l0) (.inr "java/lang/IllegalArgumentException") (hp o0 a1 t1 p1 m0 (ou ov) l0) 1 6) : CT E M_L_whereAt (d + 1) [.ref 4096, .int x0, .int x1, .ref 20480] (hp o0 (ar T K os sc) t0 p0 m0 (ou ov) l0) (.inl (some (.int (nI 2)))) (hp o0 a1 t1 p1 m0 (ou ov) l0) 1 6 := by
  refine CT.of (L := [some (.ref 4096), some (.int x0), some (.int x1), some (.ref 20480), none]) rfl rfl ?_
  refine AR.run g_L_whereAt_0 5 [some (.ref 4096), some (.int x0), some (.int x1), some (.ref 20480), none] [.int x1, .int x0, .ref 4096, .int (nI (0)), .ref 20480] _ [] rfl trivial ?_
  refine AR.callVX (mc := 0) (ms := 0) (av := [.int x0, .int x1]) (rest := [.int (nI (0)), .ref 20480]) (q := 4096) lk_L_71 dc_L_whereAt_5 rfl rfl hX rfl rfl ?_
  refine ARX.catch (a := 4) (rs := [(659, "java/lang/IndexOutOfBoundsException")]) (i9 := 523) [⟨0, 10, 13, 28⟩] ⟨0, 10, 17, 13⟩ [] rfl (by decide +kernel) (by decide) (by decide) (by decide +kernel) (by decide) (Or.inl dc_L_whereAt_17) (by decide) (tgt := 19) (Or.inl ⟨dc_L_whereAt_17, rfl⟩) ?_
  refine AR.run g_L_whereAt_h1 20 [some (.ref 4096), some (.int x0), some (.int x1), some (.ref 20480), none] [.int (nI (2))] _ [] rfl trivial ?_
  exact AR.retI dc_L_whereAt_20 rfl rfl rfl
theorem lk_L_74 : ab_lkV "LeafCradlesLaw" 74 M_X4_count 1 [886, 887, 888, 91, 889] = true := by decide +kernel
theorem g_L_count_0 : ab_oks M_L_count [(0, .aload_n 2, 1, 2, 0, 0, .null), (1, .iconst 0, 1, 0, 0, 0, .int (nI (0))), (2, .aload_n 0, 1, 0, 0, 0, .null), (3, .iload_n 1, 1, 1, 0, 0, .null)] = true := by decide +kernel
theorem g_L_count_i : ab_oks M_L_count [(7, .i2l, 1, 0, 0, 0, .null)] = true := by decide +kernel
theorem g_L_count_e : ab_oks M_L_count [(9, .goto 6, 3, 15, 0, 0, .null), (15, .iconst 0, 1, 0, 0, 0, .int (nI (0)))] = true := by decide +kernel
theorem dc_L_count_4 : decode (AM.bytes M_L_count) 4 = .ok (.invokevirtual 74, 3) := by decide +kernel
theorem ok_L_count_8 : ab_ok M_L_count (8, .lastore, 1, 0, 0, 0, .null) = true := by decide +kernel
theorem dc_L_count_16 : decode (AM.bytes M_L_count) 16 = .ok (.ireturn, 1) := by decide +kernel
theorem g_L_count_h0 : ab_oks M_L_count [(13, .iconst 1, 1, 0, 0, 0, .int (nI (1)))] = true := by decide +kernel
theorem dc_L_count_12 : decode (AM.bytes M_L_count) 12 = .ok (.astore_n 3, 1) := by decide +kernel
theorem dc_L_count_14 : decode (AM.bytes M_L_count) 14 = .ok (.ireturn, 1) := by decide +kernel
set_option maxRecDepth 100000 in
theorem w_count_O {E : AE} {d : Nat} {x0 : Int32} {r : Int32} {o0 t0 p0 m0 l0 a1 t1 p1 : List AC} {T K : Nat → Nat → Int32} {os sc : Int32} {ov : Nat → Int64} (hX : CT E M_X4_count d [.ref 4096, .int x0] (hp o0 (ar T K os sc) t0 p0 m0 (ou ov) l0) (.inl (some (.int r))) (hp o0 a1 t1 p1 m0 (ou ov) l0) 0 0) : CT E M_L_count (d + 1) [.ref 4096, .int x0, .ref 20480] (hp o0 (ar T K os sc) t0 p0 m0 (ou ov) l0) (.inl (some (.int (nI 0)))) (hp o0 a1 t1 p1 m0 (ou (vp_updL ov 0 r.toInt64)) l0) 0 0 := by
  refine CT.of (L := [some (.ref 4096), some (.int x0), some (.ref 20480), none]) rfl rfl ?_
  refine AR.run g_L_count_0 4 [some (.ref 4096), some (.int x0), some (.ref 20480), none] [.int x0, .ref 4096, .int (nI (0)), .ref 20480] _ [] rfl trivial ?_
  refine AR.callV1 (4096) [.int x0] [.int (nI (0)), .ref 20480] lk_L_74 dc_L_count_4 rfl rfl hX rfl rfl ?_
  refine AR.run g_L_count_i 8 [some (.ref 4096), some (.int x0), some (.ref 20480), none] [.long (r.toInt64), .int (nI (0)), .ref 20480] _ [] rfl trivial ?_
  refine AR.last (n := 0) (e := 0) (h1 := (hp o0 a1 t1 p1 m0 (ou (vp_updL ov 0 r.toInt64)) l0)) ok_L_count_8 rfl rfl rfl (by omega) (by decide) rfl ?_
  refine AR.run g_L_count_e 16 [some (.ref 4096), some (.int x0), some (.ref 20480), none] [.int (nI (0))] _ [] rfl trivial ?_
  exact AR.retI dc_L_count_16 rfl rfl rfl
set_option maxRecDepth 100000 in
theorem w_count_A {E : AE} {d : Nat} {x0 : Int32} {o0 t0 p0 m0 l0 a1 t1 p1 : List AC} {T K : Nat → Nat → Int32} {os sc : Int32} {ov : Nat → Int64} (hX : CT E M_X4_count d [.ref 4096, .int x0] (hp o0 (ar T K os sc) t0 p0 m0 (ou ov) l0) (.inr "java/lang/IllegalArgumentException") (hp o0 a1 t1 p1 m0 (ou ov) l0) 1 6) : CT E M_L_count (d + 1) [.ref 4096, .int x0, .ref 20480] (hp o0 (ar T K os sc) t0 p0 m0 (ou ov) l0) (.inl (some (.int (nI 1)))) (hp o0 a1 t1 p1 m0 (ou ov) l0) 1 6 := by
  refine CT.of (L := [some (.ref 4096), some (.int x0), some (.ref 20480), none]) rfl rfl ?_
  refine AR.run g_L_count_0 4 [some (.ref 4096), some (.int x0), some (.ref 20480), none] [.int x0, .ref 4096, .int (nI (0)), .ref 20480] _ [] rfl trivial ?_
  refine AR.callVX (mc := 0) (ms := 0) (av := [.int x0]) (rest := [.int (nI (0)), .ref 20480]) (q := 4096) lk_L_74 dc_L_count_4 rfl rfl hX rfl rfl ?_
  refine ARX.catch (a := 3) (rs := []) (i9 := 523) [] ⟨0, 9, 12, 13⟩ [] rfl (by decide +kernel) (by decide) (by decide) (by decide +kernel) (by decide) (Or.inr ⟨⟨3, by omega⟩, rfl, dc_L_count_12⟩) (by decide) (tgt := 13) (Or.inr ⟨⟨⟨3, by omega⟩, rfl, dc_L_count_12⟩, rfl⟩) ?_
  refine AR.run g_L_count_h0 14 [some (.ref 4096), some (.int x0), some (.ref 20480), none] [.int (nI (1))] _ [] rfl trivial ?_
  exact AR.retI dc_L_count_14 rfl rfl rfl
theorem lk_L_77 : ab_lkV "LeafCradlesLaw" 77 M_X4_setting 1 [893, 894, 895, 91, 896] = true := by decide +kernel
theorem g_L_setting_0 : ab_oks M_L_setting [(0, .aload_n 2, 1, 2, 0, 0, .null), (1, .iconst 0, 1, 0, 0, 0, .int (nI (0))), (2, .aload_n 0, 1, 0, 0, 0, .null), (3, .iload_n 1, 1, 1, 0, 0, .null)] = true := by decide +kernel
theorem g_L_setting_i : ab_oks M_L_setting [(7, .i2l, 1, 0, 0, 0, .null)] = true := by decide +kernel
theorem g_L_setting_e : ab_oks M_L_setting [(9, .goto 6, 3, 15, 0, 0, .null), (15, .iconst 0, 1, 0, 0, 0, .int (nI (0)))] = true := by decide +kernel
theorem dc_L_setting_4 : decode (AM.bytes M_L_setting) 4 = .ok (.invokevirtual 77, 3) := by decide +kernel
theorem ok_L_setting_8 : ab_ok M_L_setting (8, .lastore, 1, 0, 0, 0, .null) = true := by decide +kernel
theorem dc_L_setting_16 : decode (AM.bytes M_L_setting) 16 = .ok (.ireturn, 1) := by decide +kernel
theorem g_L_setting_h0 : ab_oks M_L_setting [(13, .iconst 1, 1, 0, 0, 0, .int (nI (1)))] = true := by decide +kernel
theorem dc_L_setting_12 : decode (AM.bytes M_L_setting) 12 = .ok (.astore_n 3, 1) := by decide +kernel
theorem dc_L_setting_14 : decode (AM.bytes M_L_setting) 14 = .ok (.ireturn, 1) := by decide +kernel
set_option maxRecDepth 100000 in
theorem w_setting_O {E : AE} {d : Nat} {x0 : Int32} {r : Int32} {o0 t0 p0 m0 l0 a1 t1 p1 : List AC} {T K : Nat → Nat → Int32} {os sc : Int32} {ov : Nat → Int64} (hX : CT E M_X4_setting d [.ref 4096, .int x0] (hp o0 (ar T K os sc) t0 p0 m0 (ou ov) l0) (.inl (some (.int r))) (hp o0 a1 t1 p1 m0 (ou ov) l0) 0 0) : CT E M_L_setting (d + 1) [.ref 4096, .int x0, .ref 20480] (hp o0 (ar T K os sc) t0 p0 m0 (ou ov) l0) (.inl (some (.int (nI 0)))) (hp o0 a1 t1 p1 m0 (ou (vp_updL ov 0 r.toInt64)) l0) 0 0 := by
  refine CT.of (L := [some (.ref 4096), some (.int x0), some (.ref 20480), none]) rfl rfl ?_
  refine AR.run g_L_setting_0 4 [some (.ref 4096), some (.int x0), some (.ref 20480), none] [.int x0, .ref 4096, .int (nI (0)), .ref 20480] _ [] rfl trivial ?_
  refine AR.callV1 (4096) [.int x0] [.int (nI (0)), .ref 20480] lk_L_77 dc_L_setting_4 rfl rfl hX rfl rfl ?_
  refine AR.run g_L_setting_i 8 [some (.ref 4096), some (.int x0), some (.ref 20480), none] [.long (r.toInt64), .int (nI (0)), .ref 20480] _ [] rfl trivial ?_
  refine AR.last (n := 0) (e := 0) (h1 := (hp o0 a1 t1 p1 m0 (ou (vp_updL ov 0 r.toInt64)) l0)) ok_L_setting_8 rfl rfl rfl (by omega) (by decide) rfl ?_
  refine AR.run g_L_setting_e 16 [some (.ref 4096), some (.int x0), some (.ref 20480), none] [.int (nI (0))] _ [] rfl trivial ?_
  exact AR.retI dc_L_setting_16 rfl rfl rfl
set_option maxRecDepth 100000 in
theorem w_setting_X {E : AE} {d : Nat} {x0 : Int32} {o0 t0 p0 m0 l0 a1 t1 p1 : List AC} {T K : Nat → Nat → Int32} {os sc : Int32} {ov : Nat → Int64} (hX : CT E M_X4_setting d [.ref 4096, .int x0] (hp o0 (ar T K os sc) t0 p0 m0 (ou ov) l0) (.inr "java/lang/IndexOutOfBoundsException") (hp o0 a1 t1 p1 m0 (ou ov) l0) 1 6) : CT E M_L_setting (d + 1) [.ref 4096, .int x0, .ref 20480] (hp o0 (ar T K os sc) t0 p0 m0 (ou ov) l0) (.inl (some (.int (nI 1)))) (hp o0 a1 t1 p1 m0 (ou ov) l0) 1 6 := by
  refine CT.of (L := [some (.ref 4096), some (.int x0), some (.ref 20480), none]) rfl rfl ?_
  refine AR.run g_L_setting_0 4 [some (.ref 4096), some (.int x0), some (.ref 20480), none] [.int x0, .ref 4096, .int (nI (0)), .ref 20480] _ [] rfl trivial ?_
  refine AR.callVX (mc := 0) (ms := 0) (av := [.int x0]) (rest := [.int (nI (0)), .ref 20480]) (q := 4096) lk_L_77 dc_L_setting_4 rfl rfl hX rfl rfl ?_
  refine ARX.catch (a := 3) (rs := []) (i9 := 659) [] ⟨0, 9, 12, 28⟩ [] rfl (by decide +kernel) (by decide) (by decide) (by decide +kernel) (by decide) (Or.inr ⟨⟨3, by omega⟩, rfl, dc_L_setting_12⟩) (by decide) (tgt := 13) (Or.inr ⟨⟨⟨3, by omega⟩, rfl, dc_L_setting_12⟩, rfl⟩) ?_
  refine AR.run g_L_setting_h0 14 [some (.ref 4096), some (.int x0), some (.ref 20480), none] [.int (nI (1))] _ [] rfl trivial ?_
  exact AR.retI dc_L_setting_14 rfl rfl rfl
theorem lk_L_80 : ab_lkV "LeafCradlesLaw" 80 M_X4_whyNot 3 [900, 901, 902, 91, 903] = true := by decide +kernel
theorem g_L_whyNot_0 : ab_oks M_L_whyNot [(0, .aload 4, 2, 4, 0, 0, .null), (2, .iconst 0, 1, 0, 0, 0, .int (nI (0))), (3, .aload_n 0, 1, 0, 0, 0, .null), (4, .iload_n 1, 1, 1, 0, 0, .null), (5, .iload_n 2, 1, 2, 0, 0, .null), (6, .iload_n 3, 1, 3, 0, 0, .null)] = true := by decide +kernel
theorem g_L_whyNot_i : ab_oks M_L_whyNot [(10, .i2l, 1, 0, 0, 0, .null)] = true := by decide +kernel
theorem g_L_whyNot_e : ab_oks M_L_whyNot [(12, .goto 7, 3, 19, 0, 0, .null), (19, .iconst 0, 1, 0, 0, 0, .int (nI (0)))] = true := by decide +kernel
theorem dc_L_whyNot_7 : decode (AM.bytes M_L_whyNot) 7 = .ok (.invokevirtual 80, 3) := by decide +kernel
theorem ok_L_whyNot_11 : ab_ok M_L_whyNot (11, .lastore, 1, 0, 0, 0, .null) = true := by decide +kernel
theorem dc_L_whyNot_20 : decode (AM.bytes M_L_whyNot) 20 = .ok (.ireturn, 1) := by decide +kernel
theorem g_L_whyNot_h0 : ab_oks M_L_whyNot [(17, .iconst 1, 1, 0, 0, 0, .int (nI (1)))] = true := by decide +kernel
theorem dc_L_whyNot_15 : decode (AM.bytes M_L_whyNot) 15 = .ok (.astore 5, 2) := by decide +kernel
theorem dc_L_whyNot_18 : decode (AM.bytes M_L_whyNot) 18 = .ok (.ireturn, 1) := by decide +kernel
set_option maxRecDepth 100000 in
theorem w_whyNot_O {E : AE} {d : Nat} {x0 : Int32} {x1 : Int32} {x2 : Int32} {r : Int32} {o0 t0 p0 m0 l0 a1 t1 p1 : List AC} {T K : Nat → Nat → Int32} {os sc : Int32} {ov : Nat → Int64} (hX : CT E M_X4_whyNot d [.ref 4096, .int x0, .int x1, .int x2] (hp o0 (ar T K os sc) t0 p0 m0 (ou ov) l0) (.inl (some (.int r))) (hp o0 a1 t1 p1 m0 (ou ov) l0) 0 0) : CT E M_L_whyNot (d + 1) [.ref 4096, .int x0, .int x1, .int x2, .ref 20480] (hp o0 (ar T K os sc) t0 p0 m0 (ou ov) l0) (.inl (some (.int (nI 0)))) (hp o0 a1 t1 p1 m0 (ou (vp_updL ov 0 r.toInt64)) l0) 0 0 := by
  refine CT.of (L := [some (.ref 4096), some (.int x0), some (.int x1), some (.int x2), some (.ref 20480), none]) rfl rfl ?_
  refine AR.run g_L_whyNot_0 7 [some (.ref 4096), some (.int x0), some (.int x1), some (.int x2), some (.ref 20480), none] [.int x2, .int x1, .int x0, .ref 4096, .int (nI (0)), .ref 20480] _ [] rfl trivial ?_
  refine AR.callV1 (4096) [.int x0, .int x1, .int x2] [.int (nI (0)), .ref 20480] lk_L_80 dc_L_whyNot_7 rfl rfl hX rfl rfl ?_
  refine AR.run g_L_whyNot_i 11 [some (.ref 4096), some (.int x0), some (.int x1), some (.int x2), some (.ref 20480), none] [.long (r.toInt64), .int (nI (0)), .ref 20480] _ [] rfl trivial ?_
  refine AR.last (n := 0) (e := 0) (h1 := (hp o0 a1 t1 p1 m0 (ou (vp_updL ov 0 r.toInt64)) l0)) ok_L_whyNot_11 rfl rfl rfl (by omega) (by decide) rfl ?_
  refine AR.run g_L_whyNot_e 20 [some (.ref 4096), some (.int x0), some (.int x1), some (.int x2), some (.ref 20480), none] [.int (nI (0))] _ [] rfl trivial ?_
  exact AR.retI dc_L_whyNot_20 rfl rfl rfl
set_option maxRecDepth 100000 in
theorem w_whyNot_X {E : AE} {d : Nat} {x0 : Int32} {x1 : Int32} {x2 : Int32} {o0 t0 p0 m0 l0 a1 t1 p1 : List AC} {T K : Nat → Nat → Int32} {os sc : Int32} {ov : Nat → Int64} (hX : CT E M_X4_whyNot d [.ref 4096, .int x0, .int x1, .int x2] (hp o0 (ar T K os sc) t0 p0 m0 (ou ov) l0) (.inr "java/lang/IndexOutOfBoundsException") (hp o0 a1 t1 p1 m0 (ou ov) l0) 1 6) : CT E M_L_whyNot (d + 1) [.ref 4096, .int x0, .int x1, .int x2, .ref 20480] (hp o0 (ar T K os sc) t0 p0 m0 (ou ov) l0) (.inl (some (.int (nI 1)))) (hp o0 a1 t1 p1 m0 (ou ov) l0) 1 6 := by
  refine CT.of (L := [some (.ref 4096), some (.int x0), some (.int x1), some (.int x2), some (.ref 20480), none]) rfl rfl ?_
  refine AR.run g_L_whyNot_0 7 [some (.ref 4096), some (.int x0), some (.int x1), some (.int x2), some (.ref 20480), none] [.int x2, .int x1, .int x0, .ref 4096, .int (nI (0)), .ref 20480] _ [] rfl trivial ?_
  refine AR.callVX (mc := 0) (ms := 0) (av := [.int x0, .int x1, .int x2]) (rest := [.int (nI (0)), .ref 20480]) (q := 4096) lk_L_80 dc_L_whyNot_7 rfl rfl hX rfl rfl ?_
  refine ARX.catch (a := 5) (rs := []) (i9 := 659) [] ⟨0, 12, 15, 28⟩ [] rfl (by decide +kernel) (by decide) (by decide) (by decide +kernel) (by decide) (Or.inl dc_L_whyNot_15) (by decide) (tgt := 17) (Or.inl ⟨dc_L_whyNot_15, rfl⟩) ?_
  refine AR.run g_L_whyNot_h0 18 [some (.ref 4096), some (.int x0), some (.int x1), some (.int x2), some (.ref 20480), none] [.int (nI (1))] _ [] rfl trivial ?_
  exact AR.retI dc_L_whyNot_18 rfl rfl rfl
theorem lk_L_83 : ab_lkV "LeafCradlesLaw" 83 M_X4_ifPassed 2 [907, 908, 909, 91, 910] = true := by decide +kernel
theorem g_L_ifPassed_0 : ab_oks M_L_ifPassed [(0, .aload_n 3, 1, 3, 0, 0, .null), (1, .iconst 0, 1, 0, 0, 0, .int (nI (0))), (2, .aload_n 0, 1, 0, 0, 0, .null), (3, .iload_n 1, 1, 1, 0, 0, .null), (4, .iload_n 2, 1, 2, 0, 0, .null)] = true := by decide +kernel
theorem g_L_ifPassed_i : ab_oks M_L_ifPassed [(8, .i2l, 1, 0, 0, 0, .null)] = true := by decide +kernel
theorem g_L_ifPassed_e : ab_oks M_L_ifPassed [(10, .goto 11, 3, 21, 0, 0, .null), (21, .iconst 0, 1, 0, 0, 0, .int (nI (0)))] = true := by decide +kernel
theorem dc_L_ifPassed_5 : decode (AM.bytes M_L_ifPassed) 5 = .ok (.invokevirtual 83, 3) := by decide +kernel
theorem ok_L_ifPassed_9 : ab_ok M_L_ifPassed (9, .lastore, 1, 0, 0, 0, .null) = true := by decide +kernel
theorem dc_L_ifPassed_22 : decode (AM.bytes M_L_ifPassed) 22 = .ok (.ireturn, 1) := by decide +kernel
theorem g_L_ifPassed_h0 : ab_oks M_L_ifPassed [(15, .iconst 1, 1, 0, 0, 0, .int (nI (1)))] = true := by decide +kernel
theorem dc_L_ifPassed_13 : decode (AM.bytes M_L_ifPassed) 13 = .ok (.astore 4, 2) := by decide +kernel
theorem dc_L_ifPassed_16 : decode (AM.bytes M_L_ifPassed) 16 = .ok (.ireturn, 1) := by decide +kernel
theorem g_L_ifPassed_h1 : ab_oks M_L_ifPassed [(19, .iconst 2, 1, 0, 0, 0, .int (nI (2)))] = true := by decide +kernel
theorem dc_L_ifPassed_17 : decode (AM.bytes M_L_ifPassed) 17 = .ok (.astore 4, 2) := by decide +kernel
theorem dc_L_ifPassed_20 : decode (AM.bytes M_L_ifPassed) 20 = .ok (.ireturn, 1) := by decide +kernel
set_option maxRecDepth 100000 in
theorem w_ifPassed_O {E : AE} {d : Nat} {x0 : Int32} {x1 : Int32} {r : Int32} {o0 t0 p0 m0 l0 a1 t1 p1 : List AC} {T K : Nat → Nat → Int32} {os sc : Int32} {ov : Nat → Int64} (hX : CT E M_X4_ifPassed d [.ref 4096, .int x0, .int x1] (hp o0 (ar T K os sc) t0 p0 m0 (ou ov) l0) (.inl (some (.int r))) (hp o0 a1 t1 p1 m0 (ou ov) l0) 0 0) : CT E M_L_ifPassed (d + 1) [.ref 4096, .int x0, .int x1, .ref 20480] (hp o0 (ar T K os sc) t0 p0 m0 (ou ov) l0) (.inl (some (.int (nI 0)))) (hp o0 a1 t1 p1 m0 (ou (vp_updL ov 0 r.toInt64)) l0) 0 0 := by
  refine CT.of (L := [some (.ref 4096), some (.int x0), some (.int x1), some (.ref 20480), none]) rfl rfl ?_
  refine AR.run g_L_ifPassed_0 5 [some (.ref 4096), some (.int x0), some (.int x1), some (.ref 20480), none] [.int x1, .int x0, .ref 4096, .int (nI (0)), .ref 20480] _ [] rfl trivial ?_
  refine AR.callV1 (4096) [.int x0, .int x1] [.int (nI (0)), .ref 20480] lk_L_83 dc_L_ifPassed_5 rfl rfl hX rfl rfl ?_
  refine AR.run g_L_ifPassed_i 9 [some (.ref 4096), some (.int x0), some (.int x1), some (.ref 20480), none] [.long (r.toInt64), .int (nI (0)), .ref 20480] _ [] rfl trivial ?_
  refine AR.last (n := 0) (e := 0) (h1 := (hp o0 a1 t1 p1 m0 (ou (vp_updL ov 0 r.toInt64)) l0)) ok_L_ifPassed_9 rfl rfl rfl (by omega) (by decide) rfl ?_
  refine AR.run g_L_ifPassed_e 22 [some (.ref 4096), some (.int x0), some (.int x1), some (.ref 20480), none] [.int (nI (0))] _ [] rfl trivial ?_
  exact AR.retI dc_L_ifPassed_22 rfl rfl rfl
set_option maxRecDepth 100000 in
theorem w_ifPassed_X {E : AE} {d : Nat} {x0 : Int32} {x1 : Int32} {o0 t0 p0 m0 l0 a1 t1 p1 : List AC} {T K : Nat → Nat → Int32} {os sc : Int32} {ov : Nat → Int64} (hX : CT E M_X4_ifPassed d [.ref 4096, .int x0, .int x1] (hp o0 (ar T K os sc) t0 p0 m0 (ou ov) l0) (.inr "java/lang/IndexOutOfBoundsException") (hp o0 a1 t1 p1 m0 (ou ov) l0) 1 6) : CT E M_L_ifPassed (d + 1) [.ref 4096, .int x0, .int x1, .ref 20480] (hp o0 (ar T K os sc) t0 p0 m0 (ou ov) l0) (.inl (some (.int (nI 1)))) (hp o0 a1 t1 p1 m0 (ou ov) l0) 1 6 := by
  refine CT.of (L := [some (.ref 4096), some (.int x0), some (.int x1), some (.ref 20480), none]) rfl rfl ?_
  refine AR.run g_L_ifPassed_0 5 [some (.ref 4096), some (.int x0), some (.int x1), some (.ref 20480), none] [.int x1, .int x0, .ref 4096, .int (nI (0)), .ref 20480] _ [] rfl trivial ?_
  refine AR.callVX (mc := 0) (ms := 0) (av := [.int x0, .int x1]) (rest := [.int (nI (0)), .ref 20480]) (q := 4096) lk_L_83 dc_L_ifPassed_5 rfl rfl hX rfl rfl ?_
  refine ARX.catch (a := 4) (rs := []) (i9 := 659) [] ⟨0, 10, 13, 28⟩ [⟨0, 10, 17, 13⟩] rfl (by decide +kernel) (by decide) (by decide) (by decide +kernel) (by decide) (Or.inl dc_L_ifPassed_13) (by decide) (tgt := 15) (Or.inl ⟨dc_L_ifPassed_13, rfl⟩) ?_
  refine AR.run g_L_ifPassed_h0 16 [some (.ref 4096), some (.int x0), some (.int x1), some (.ref 20480), none] [.int (nI (1))] _ [] rfl trivial ?_
  exact AR.retI dc_L_ifPassed_16 rfl rfl rfl
set_option maxRecDepth 100000 in
theorem w_ifPassed_A {E : AE} {d : Nat} {x0 : Int32} {x1 : Int32} {o0 t0 p0 m0 l0 a1 t1 p1 : List AC} {T K : Nat → Nat → Int32} {os sc : Int32} {ov : Nat → Int64} (hX : CT E M_X4_ifPassed d [.ref 4096, .int x0, .int x1] (hp o0 (ar T K os sc) t0 p0 m0 (ou ov) l0) (.inr "java/lang/IllegalArgumentException") (hp o0 a1 t1 p1 m0 (ou ov) l0) 1 6) : CT E M_L_ifPassed (d + 1) [.ref 4096, .int x0, .int x1, .ref 20480] (hp o0 (ar T K os sc) t0 p0 m0 (ou ov) l0) (.inl (some (.int (nI 2)))) (hp o0 a1 t1 p1 m0 (ou ov) l0) 1 6 := by
  refine CT.of (L := [some (.ref 4096), some (.int x0), some (.int x1), some (.ref 20480), none]) rfl rfl ?_
  refine AR.run g_L_ifPassed_0 5 [some (.ref 4096), some (.int x0), some (.int x1), some (.ref 20480), none] [.int x1, .int x0, .ref 4096, .int (nI (0)), .ref 20480] _ [] rfl trivial ?_
  refine AR.callVX (mc := 0) (ms := 0) (av := [.int x0, .int x1]) (rest := [.int (nI (0)), .ref 20480]) (q := 4096) lk_L_83 dc_L_ifPassed_5 rfl rfl hX rfl rfl ?_
  refine ARX.catch (a := 4) (rs := [(659, "java/lang/IndexOutOfBoundsException")]) (i9 := 523) [⟨0, 10, 13, 28⟩] ⟨0, 10, 17, 13⟩ [] rfl (by decide +kernel) (by decide) (by decide) (by decide +kernel) (by decide) (Or.inl dc_L_ifPassed_17) (by decide) (tgt := 19) (Or.inl ⟨dc_L_ifPassed_17, rfl⟩) ?_
  refine AR.run g_L_ifPassed_h1 20 [some (.ref 4096), some (.int x0), some (.int x1), some (.ref 20480), none] [.int (nI (2))] _ [] rfl trivial ?_
  exact AR.retI dc_L_ifPassed_20 rfl rfl rfl
theorem lk_L_86 : ab_lkV "LeafCradlesLaw" 86 M_X4_quickest 1 [919, 920, 921, 91, 922] = true := by decide +kernel
theorem g_L_quickest_0 : ab_oks M_L_quickest [(0, .aload_n 2, 1, 2, 0, 0, .null), (1, .iconst 0, 1, 0, 0, 0, .int (nI (0))), (2, .aload_n 0, 1, 0, 0, 0, .null), (3, .iload_n 1, 1, 1, 0, 0, .null)] = true := by decide +kernel
theorem g_L_quickest_i : ab_oks M_L_quickest [(7, .i2l, 1, 0, 0, 0, .null)] = true := by decide +kernel
theorem g_L_quickest_e : ab_oks M_L_quickest [(9, .goto 6, 3, 15, 0, 0, .null), (15, .iconst 0, 1, 0, 0, 0, .int (nI (0)))] = true := by decide +kernel
theorem dc_L_quickest_4 : decode (AM.bytes M_L_quickest) 4 = .ok (.invokevirtual 86, 3) := by decide +kernel
theorem ok_L_quickest_8 : ab_ok M_L_quickest (8, .lastore, 1, 0, 0, 0, .null) = true := by decide +kernel
theorem dc_L_quickest_16 : decode (AM.bytes M_L_quickest) 16 = .ok (.ireturn, 1) := by decide +kernel
theorem g_L_quickest_h0 : ab_oks M_L_quickest [(13, .iconst 1, 1, 0, 0, 0, .int (nI (1)))] = true := by decide +kernel
theorem dc_L_quickest_12 : decode (AM.bytes M_L_quickest) 12 = .ok (.astore_n 3, 1) := by decide +kernel
theorem dc_L_quickest_14 : decode (AM.bytes M_L_quickest) 14 = .ok (.ireturn, 1) := by decide +kernel
set_option maxRecDepth 100000 in
theorem w_quickest_O {E : AE} {d : Nat} {x0 : Int32} {r : Int32} {o0 t0 p0 m0 l0 a1 t1 p1 : List AC} {T K : Nat → Nat → Int32} {os sc : Int32} {ov : Nat → Int64} (hX : CT E M_X4_quickest d [.ref 4096, .int x0] (hp o0 (ar T K os sc) t0 p0 m0 (ou ov) l0) (.inl (some (.int r))) (hp o0 a1 t1 p1 m0 (ou ov) l0) 0 0) : CT E M_L_quickest (d + 1) [.ref 4096, .int x0, .ref 20480] (hp o0 (ar T K os sc) t0 p0 m0 (ou ov) l0) (.inl (some (.int (nI 0)))) (hp o0 a1 t1 p1 m0 (ou (vp_updL ov 0 r.toInt64)) l0) 0 0 := by
  refine CT.of (L := [some (.ref 4096), some (.int x0), some (.ref 20480), none]) rfl rfl ?_
  refine AR.run g_L_quickest_0 4 [some (.ref 4096), some (.int x0), some (.ref 20480), none] [.int x0, .ref 4096, .int (nI (0)), .ref 20480] _ [] rfl trivial ?_
  refine AR.callV1 (4096) [.int x0] [.int (nI (0)), .ref 20480] lk_L_86 dc_L_quickest_4 rfl rfl hX rfl rfl ?_
  refine AR.run g_L_quickest_i 8 [some (.ref 4096), some (.int x0), some (.ref 20480), none] [.long (r.toInt64), .int (nI (0)), .ref 20480] _ [] rfl trivial ?_
  refine AR.last (n := 0) (e := 0) (h1 := (hp o0 a1 t1 p1 m0 (ou (vp_updL ov 0 r.toInt64)) l0)) ok_L_quickest_8 rfl rfl rfl (by omega) (by decide) rfl ?_
  refine AR.run g_L_quickest_e 16 [some (.ref 4096), some (.int x0), some (.ref 20480), none] [.int (nI (0))] _ [] rfl trivial ?_
  exact AR.retI dc_L_quickest_16 rfl rfl rfl
set_option maxRecDepth 100000 in
theorem w_quickest_X {E : AE} {d : Nat} {x0 : Int32} {o0 t0 p0 m0 l0 a1 t1 p1 : List AC} {T K : Nat → Nat → Int32} {os sc : Int32} {ov : Nat → Int64} (hX : CT E M_X4_quickest d [.ref 4096, .int x0] (hp o0 (ar T K os sc) t0 p0 m0 (ou ov) l0) (.inr "java/lang/IndexOutOfBoundsException") (hp o0 a1 t1 p1 m0 (ou ov) l0) 1 6) : CT E M_L_quickest (d + 1) [.ref 4096, .int x0, .ref 20480] (hp o0 (ar T K os sc) t0 p0 m0 (ou ov) l0) (.inl (some (.int (nI 1)))) (hp o0 a1 t1 p1 m0 (ou ov) l0) 1 6 := by
  refine CT.of (L := [some (.ref 4096), some (.int x0), some (.ref 20480), none]) rfl rfl ?_
  refine AR.run g_L_quickest_0 4 [some (.ref 4096), some (.int x0), some (.ref 20480), none] [.int x0, .ref 4096, .int (nI (0)), .ref 20480] _ [] rfl trivial ?_
  refine AR.callVX (mc := 0) (ms := 0) (av := [.int x0]) (rest := [.int (nI (0)), .ref 20480]) (q := 4096) lk_L_86 dc_L_quickest_4 rfl rfl hX rfl rfl ?_
  refine ARX.catch (a := 3) (rs := []) (i9 := 659) [] ⟨0, 9, 12, 28⟩ [] rfl (by decide +kernel) (by decide) (by decide) (by decide +kernel) (by decide) (Or.inr ⟨⟨3, by omega⟩, rfl, dc_L_quickest_12⟩) (by decide) (tgt := 13) (Or.inr ⟨⟨⟨3, by omega⟩, rfl, dc_L_quickest_12⟩, rfl⟩) ?_
  refine AR.run g_L_quickest_h0 14 [some (.ref 4096), some (.int x0), some (.ref 20480), none] [.int (nI (1))] _ [] rfl trivial ?_
  exact AR.retI dc_L_quickest_14 rfl rfl rfl
theorem lk_L_89 : ab_lkV "LeafCradlesLaw" 89 M_X4_bestLoad 2 [926, 927, 928, 91, 929] = true := by decide +kernel
theorem g_L_bestLoad_0 : ab_oks M_L_bestLoad [(0, .aload_n 3, 1, 3, 0, 0, .null), (1, .iconst 0, 1, 0, 0, 0, .int (nI (0))), (2, .aload_n 0, 1, 0, 0, 0, .null), (3, .iload_n 1, 1, 1, 0, 0, .null), (4, .iload_n 2, 1, 2, 0, 0, .null)] = true := by decide +kernel
theorem g_L_bestLoad_i : ab_oks M_L_bestLoad [(8, .i2l, 1, 0, 0, 0, .null)] = true := by decide +kernel
theorem g_L_bestLoad_e : ab_oks M_L_bestLoad [(10, .goto 7, 3, 17, 0, 0, .null), (17, .iconst 0, 1, 0, 0, 0, .int (nI (0)))] = true := by decide +kernel
theorem dc_L_bestLoad_5 : decode (AM.bytes M_L_bestLoad) 5 = .ok (.invokevirtual 89, 3) := by decide +kernel
theorem ok_L_bestLoad_9 : ab_ok M_L_bestLoad (9, .lastore, 1, 0, 0, 0, .null) = true := by decide +kernel
theorem dc_L_bestLoad_18 : decode (AM.bytes M_L_bestLoad) 18 = .ok (.ireturn, 1) := by decide +kernel
theorem g_L_bestLoad_h0 : ab_oks M_L_bestLoad [(15, .iconst 1, 1, 0, 0, 0, .int (nI (1)))] = true := by decide +kernel
theorem dc_L_bestLoad_13 : decode (AM.bytes M_L_bestLoad) 13 = .ok (.astore 4, 2) := by decide +kernel
theorem dc_L_bestLoad_16 : decode (AM.bytes M_L_bestLoad) 16 = .ok (.ireturn, 1) := by decide +kernel
set_option maxRecDepth 100000 in
theorem w_bestLoad_O {E : AE} {d : Nat} {x0 : Int32} {x1 : Int32} {r : Int32} {o0 t0 p0 m0 l0 a1 t1 p1 : List AC} {T K : Nat → Nat → Int32} {os sc : Int32} {ov : Nat → Int64} (hX : CT E M_X4_bestLoad d [.ref 4096, .int x0, .int x1] (hp o0 (ar T K os sc) t0 p0 m0 (ou ov) l0) (.inl (some (.int r))) (hp o0 a1 t1 p1 m0 (ou ov) l0) 0 0) : CT E M_L_bestLoad (d + 1) [.ref 4096, .int x0, .int x1, .ref 20480] (hp o0 (ar T K os sc) t0 p0 m0 (ou ov) l0) (.inl (some (.int (nI 0)))) (hp o0 a1 t1 p1 m0 (ou (vp_updL ov 0 r.toInt64)) l0) 0 0 := by
  refine CT.of (L := [some (.ref 4096), some (.int x0), some (.int x1), some (.ref 20480), none]) rfl rfl ?_
  refine AR.run g_L_bestLoad_0 5 [some (.ref 4096), some (.int x0), some (.int x1), some (.ref 20480), none] [.int x1, .int x0, .ref 4096, .int (nI (0)), .ref 20480] _ [] rfl trivial ?_
  refine AR.callV1 (4096) [.int x0, .int x1] [.int (nI (0)), .ref 20480] lk_L_89 dc_L_bestLoad_5 rfl rfl hX rfl rfl ?_
  refine AR.run g_L_bestLoad_i 9 [some (.ref 4096), some (.int x0), some (.int x1), some (.ref 20480), none] [.long (r.toInt64), .int (nI (0)), .ref 20480] _ [] rfl trivial ?_
  refine AR.last (n := 0) (e := 0) (h1 := (hp o0 a1 t1 p1 m0 (ou (vp_updL ov 0 r.toInt64)) l0)) ok_L_bestLoad_9 rfl rfl rfl (by omega) (by decide) rfl ?_
  refine AR.run g_L_bestLoad_e 18 [some (.ref 4096), some (.int x0), some (.int x1), some (.ref 20480), none] [.int (nI (0))] _ [] rfl trivial ?_
  exact AR.retI dc_L_bestLoad_18 rfl rfl rfl
set_option maxRecDepth 100000 in
theorem w_bestLoad_A {E : AE} {d : Nat} {x0 : Int32} {x1 : Int32} {o0 t0 p0 m0 l0 a1 t1 p1 : List AC} {T K : Nat → Nat → Int32} {os sc : Int32} {ov : Nat → Int64} (hX : CT E M_X4_bestLoad d [.ref 4096, .int x0, .int x1] (hp o0 (ar T K os sc) t0 p0 m0 (ou ov) l0) (.inr "java/lang/IllegalArgumentException") (hp o0 a1 t1 p1 m0 (ou ov) l0) 1 6) : CT E M_L_bestLoad (d + 1) [.ref 4096, .int x0, .int x1, .ref 20480] (hp o0 (ar T K os sc) t0 p0 m0 (ou ov) l0) (.inl (some (.int (nI 1)))) (hp o0 a1 t1 p1 m0 (ou ov) l0) 1 6 := by
  refine CT.of (L := [some (.ref 4096), some (.int x0), some (.int x1), some (.ref 20480), none]) rfl rfl ?_
  refine AR.run g_L_bestLoad_0 5 [some (.ref 4096), some (.int x0), some (.int x1), some (.ref 20480), none] [.int x1, .int x0, .ref 4096, .int (nI (0)), .ref 20480] _ [] rfl trivial ?_
  refine AR.callVX (mc := 0) (ms := 0) (av := [.int x0, .int x1]) (rest := [.int (nI (0)), .ref 20480]) (q := 4096) lk_L_89 dc_L_bestLoad_5 rfl rfl hX rfl rfl ?_
  refine ARX.catch (a := 4) (rs := []) (i9 := 523) [] ⟨0, 10, 13, 13⟩ [] rfl (by decide +kernel) (by decide) (by decide) (by decide +kernel) (by decide) (Or.inl dc_L_bestLoad_13) (by decide) (tgt := 15) (Or.inl ⟨dc_L_bestLoad_13, rfl⟩) ?_
  refine AR.run g_L_bestLoad_h0 16 [some (.ref 4096), some (.int x0), some (.int x1), some (.ref 20480), none] [.int (nI (1))] _ [] rfl trivial ?_
  exact AR.retI dc_L_bestLoad_16 rfl rfl rfl
end LAWS
