theorem g_X3_at_0_1 : ab_oks M_X3_at [(0, .iload_n 1, 1, 1, 0, 0, .null)] = true := by decide +kernel
theorem dc_X3_at_1 : decode (AM.bytes M_X3_at) 1 = .ok (.ifCond .lt 23, 3) := by decide +kernel
theorem g_X3_at_4_3 : ab_oks M_X3_at [(4, .iload_n 1, 1, 1, 0, 0, .null), (5, .aload_n 0, 1, 0, 0, 0, .null), (6, .getfield 15, 3, 3, 0, 71, .null)] = true := by decide +kernel
theorem dc_X3_at_9 : decode (AM.bytes M_X3_at) 9 = .ok (.if_icmp .ge 15, 3) := by decide +kernel
theorem g_X3_at_12_1 : ab_oks M_X3_at [(12, .iload_n 2, 1, 2, 0, 0, .null)] = true := by decide +kernel
theorem dc_X3_at_13 : decode (AM.bytes M_X3_at) 13 = .ok (.ifCond .lt 11, 3) := by decide +kernel
theorem g_X3_at_16_3 : ab_oks M_X3_at [(16, .iload_n 2, 1, 2, 0, 0, .null), (17, .aload_n 0, 1, 0, 0, 0, .null), (18, .getfield 19, 3, 3, 1, 72, .null)] = true := by decide +kernel
theorem dc_X3_at_21 : decode (AM.bytes M_X3_at) 21 = .ok (.if_icmp .lt 5, 3) := by decide +kernel
theorem g_X3_at_26_8 : ab_oks M_X3_at [(26, .aload_n 0, 1, 0, 0, 0, .null), (27, .getfield 22, 3, 3, 2, 73, .null), (30, .iload_n 1, 1, 1, 0, 0, .null), (31, .aload_n 0, 1, 0, 0, 0, .null), (32, .getfield 19, 3, 3, 1, 72, .null), (35, .imul, 1, 0, 0, 0, .null), (36, .iload_n 2, 1, 2, 0, 0, .null), (37, .iadd, 1, 0, 0, 0, .null)] = true := by decide +kernel
theorem ok_X3_at_38 : ab_ok M_X3_at (38, .iaload, 1, 0, 0, 0, .null) = true := by decide +kernel
theorem dc_X3_at_39 : decode (AM.bytes M_X3_at) 39 = .ok (.ireturn, 1) := by decide +kernel
set_option maxRecDepth 100000 in
set_option maxHeartbeats 4000000 in
theorem s_3atT0 {E : AE} (d : Nat) (r : Nat) (c : Nat)  {o0 t0 p0 m0 u0 l0 : List AC} {T K : Nat → Nat → Int32} {os sc : Int32} (hr : r < 13) (hc : c < 7) : CT E M_X3_at d [.ref 4098, .int (nI (r)), .int (nI (c))] (hp o0 (ar T K os sc) t0 p0 m0 u0 l0) (.inl (some (.int ((T 0) ((r * 7) + c))))) (hp o0 (ar T K os sc) t0 p0 m0 u0 l0) 0 0 := by
  refine CT.of (L := [some (.ref 4098), some (.int (nI (r))), some (.int (nI (c)))]) rfl rfl ?_
  refine AR.run g_X3_at_0_1 1 [some (.ref 4098), some (.int (nI (r))), some (.int (nI (c)))] [.int (nI (r))] _ [] rfl trivial ?_
  refine AR.ltN (tgt := 24) (a := r) dc_X3_at_1 (by decide) (by first | rfl | (simp only [nI_add, pk_mul]; first | done | rfl)) (by omega) (fun c1_1 => absurd c1_1 (fun q => q)) (fun c1_1 => ?_)
  refine AR.run g_X3_at_4_3 9 [some (.ref 4098), some (.int (nI (r))), some (.int (nI (c)))] [.int (nI (13)), .int (nI (r))] _ [] rfl trivial ?_
  refine AR.ge2N (tgt := 24) (a := r) (b := 13) dc_X3_at_9 (by decide) (by first | rfl | (simp only [nI_add, pk_mul]; first | done | rfl)) (by first | rfl | (simp only [nI_add, pk_mul]; first | done | rfl)) (by omega) (by omega) (fun c9_2 => absurd c9_2 (by omega)) (fun c9_2 => ?_)
  refine AR.run g_X3_at_12_1 13 [some (.ref 4098), some (.int (nI (r))), some (.int (nI (c)))] [.int (nI (c))] _ [] rfl trivial ?_
  refine AR.ltN (tgt := 24) (a := c) dc_X3_at_13 (by decide) (by first | rfl | (simp only [nI_add, pk_mul]; first | done | rfl)) (by omega) (fun c13_3 => absurd c13_3 (fun q => q)) (fun c13_3 => ?_)
  refine AR.run g_X3_at_16_3 21 [some (.ref 4098), some (.int (nI (r))), some (.int (nI (c)))] [.int (nI (7)), .int (nI (c))] _ [] rfl trivial ?_
  refine AR.lt2N (tgt := 26) (a := c) (b := 7) dc_X3_at_21 (by decide) (by first | rfl | (simp only [nI_add, pk_mul]; first | done | rfl)) (by first | rfl | (simp only [nI_add, pk_mul]; first | done | rfl)) (by omega) (by omega) (fun c21_4 => ?_) (fun c21_4 => absurd c21_4 (by omega))
  refine AR.run g_X3_at_26_8 38 [some (.ref 4098), some (.int (nI (r))), some (.int (nI (c)))] [.int (((nI (r)) * (nI (7))) + (nI (c))), .ref 4099] _ [] rfl trivial ?_
  refine AR.ald (n := 0) (e := ((r * 7) + c)) ok_X3_at_38 (by first | rfl | (simp only [nI_add, pk_mul]; first | done | rfl)) rfl (by omega) (by first | decide | omega) ?_
  exact AR.retI dc_X3_at_39 rfl rfl rfl
theorem g_X3_put_0_1 : ab_oks M_X3_put [(0, .iload_n 1, 1, 1, 0, 0, .null)] = true := by decide +kernel
theorem dc_X3_put_1 : decode (AM.bytes M_X3_put) 1 = .ok (.ifCond .lt 37, 3) := by decide +kernel
theorem g_X3_put_4_3 : ab_oks M_X3_put [(4, .iload_n 1, 1, 1, 0, 0, .null), (5, .aload_n 0, 1, 0, 0, 0, .null), (6, .getfield 15, 3, 3, 0, 71, .null)] = true := by decide +kernel
theorem dc_X3_put_9 : decode (AM.bytes M_X3_put) 9 = .ok (.if_icmp .ge 29, 3) := by decide +kernel
theorem g_X3_put_12_1 : ab_oks M_X3_put [(12, .iload_n 2, 1, 2, 0, 0, .null)] = true := by decide +kernel
theorem dc_X3_put_13 : decode (AM.bytes M_X3_put) 13 = .ok (.ifCond .lt 25, 3) := by decide +kernel
theorem g_X3_put_16_3 : ab_oks M_X3_put [(16, .iload_n 2, 1, 2, 0, 0, .null), (17, .aload_n 0, 1, 0, 0, 0, .null), (18, .getfield 19, 3, 3, 1, 72, .null)] = true := by decide +kernel
theorem dc_X3_put_21 : decode (AM.bytes M_X3_put) 21 = .ok (.if_icmp .ge 17, 3) := by decide +kernel
theorem g_X3_put_24_9 : ab_oks M_X3_put [(24, .aload_n 0, 1, 0, 0, 0, .null), (25, .getfield 22, 3, 3, 2, 73, .null), (28, .iload_n 1, 1, 1, 0, 0, .null), (29, .aload_n 0, 1, 0, 0, 0, .null), (30, .getfield 19, 3, 3, 1, 72, .null), (33, .imul, 1, 0, 0, 0, .null), (34, .iload_n 2, 1, 2, 0, 0, .null), (35, .iadd, 1, 0, 0, 0, .null), (36, .iload_n 3, 1, 3, 0, 0, .null)] = true := by decide +kernel
theorem ok_X3_put_37 : ab_ok M_X3_put (37, .iastore, 1, 0, 0, 0, .null) = true := by decide +kernel
theorem dc_X3_put_38 : decode (AM.bytes M_X3_put) 38 = .ok (.return_, 1) := by decide +kernel
set_option maxRecDepth 100000 in
set_option maxHeartbeats 4000000 in
theorem s_3putT0 {E : AE} (d : Nat) (r : Nat) (c : Nat) (x : Int32)  {o0 t0 p0 m0 u0 l0 : List AC} {T K : Nat → Nat → Int32} {os sc : Int32} (hr : r < 13) (hc : c < 7) : CT E M_X3_put d [.ref 4098, .int (nI (r)), .int (nI (c)), .int (x)] (hp o0 (ar T K os sc) t0 p0 m0 u0 l0) (.inl none) (hp o0 (ar ((tu T 0 (upd (T 0) ((r * 7) + c) x))) K os sc) t0 p0 m0 u0 l0) 0 0 := by
  refine CT.of (L := [some (.ref 4098), some (.int (nI (r))), some (.int (nI (c))), some (.int (x))]) rfl rfl ?_
  refine AR.run g_X3_put_0_1 1 [some (.ref 4098), some (.int (nI (r))), some (.int (nI (c))), some (.int (x))] [.int (nI (r))] _ [] rfl trivial ?_
  refine AR.ltN (tgt := 38) (a := r) dc_X3_put_1 (by decide) (by first | rfl | (simp only [nI_add, pk_mul]; first | done | rfl)) (by omega) (fun c1_1 => absurd c1_1 (fun q => q)) (fun c1_1 => ?_)
  refine AR.run g_X3_put_4_3 9 [some (.ref 4098), some (.int (nI (r))), some (.int (nI (c))), some (.int (x))] [.int (nI (13)), .int (nI (r))] _ [] rfl trivial ?_
  refine AR.ge2N (tgt := 38) (a := r) (b := 13) dc_X3_put_9 (by decide) (by first | rfl | (simp only [nI_add, pk_mul]; first | done | rfl)) (by first | rfl | (simp only [nI_add, pk_mul]; first | done | rfl)) (by omega) (by omega) (fun c9_2 => absurd c9_2 (by omega)) (fun c9_2 => ?_)
  refine AR.run g_X3_put_12_1 13 [some (.ref 4098), some (.int (nI (r))), some (.int (nI (c))), some (.int (x))] [.int (nI (c))] _ [] rfl trivial ?_
  refine AR.ltN (tgt := 38) (a := c) dc_X3_put_13 (by decide) (by first | rfl | (simp only [nI_add, pk_mul]; first | done | rfl)) (by omega) (fun c13_3 => absurd c13_3 (fun q => q)) (fun c13_3 => ?_)
  refine AR.run g_X3_put_16_3 21 [some (.ref 4098), some (.int (nI (r))), some (.int (nI (c))), some (.int (x))] [.int (nI (7)), .int (nI (c))] _ [] rfl trivial ?_
  refine AR.ge2N (tgt := 38) (a := c) (b := 7) dc_X3_put_21 (by decide) (by first | rfl | (simp only [nI_add, pk_mul]; first | done | rfl)) (by first | rfl | (simp only [nI_add, pk_mul]; first | done | rfl)) (by omega) (by omega) (fun c21_4 => absurd c21_4 (by omega)) (fun c21_4 => ?_)
  refine AR.run g_X3_put_24_9 37 [some (.ref 4098), some (.int (nI (r))), some (.int (nI (c))), some (.int (x))] [.int (x), .int (((nI (r)) * (nI (7))) + (nI (c))), .ref 4099] _ [] rfl trivial ?_
  refine AR.ast (n := 0) (e := ((r * 7) + c)) (h1 := (hp o0 (ar (tu T 0 (upd (T 0) ((r * 7) + c) x)) K os sc) t0 p0 m0 u0 l0)) ok_X3_put_37 (by first | rfl | (simp only [nI_add, pk_mul]; first | done | rfl)) rfl rfl (by omega) (by decide) rfl ?_
  exact AR.retV dc_X3_put_38 rfl rfl
theorem g_X3_add_0_1 : ab_oks M_X3_add [(0, .iload_n 1, 1, 1, 0, 0, .null)] = true := by decide +kernel
theorem dc_X3_add_1 : decode (AM.bytes M_X3_add) 1 = .ok (.ifCond .lt 40, 3) := by decide +kernel
theorem g_X3_add_4_3 : ab_oks M_X3_add [(4, .iload_n 1, 1, 1, 0, 0, .null), (5, .aload_n 0, 1, 0, 0, 0, .null), (6, .getfield 15, 3, 3, 0, 71, .null)] = true := by decide +kernel
theorem dc_X3_add_9 : decode (AM.bytes M_X3_add) 9 = .ok (.if_icmp .ge 32, 3) := by decide +kernel
theorem g_X3_add_12_1 : ab_oks M_X3_add [(12, .iload_n 2, 1, 2, 0, 0, .null)] = true := by decide +kernel
theorem dc_X3_add_13 : decode (AM.bytes M_X3_add) 13 = .ok (.ifCond .lt 28, 3) := by decide +kernel
theorem g_X3_add_16_3 : ab_oks M_X3_add [(16, .iload_n 2, 1, 2, 0, 0, .null), (17, .aload_n 0, 1, 0, 0, 0, .null), (18, .getfield 19, 3, 3, 1, 72, .null)] = true := by decide +kernel
theorem dc_X3_add_21 : decode (AM.bytes M_X3_add) 21 = .ok (.if_icmp .ge 20, 3) := by decide +kernel
theorem g_X3_add_24_9 : ab_oks M_X3_add [(24, .aload_n 0, 1, 0, 0, 0, .null), (25, .getfield 22, 3, 3, 2, 73, .null), (28, .iload_n 1, 1, 1, 0, 0, .null), (29, .aload_n 0, 1, 0, 0, 0, .null), (30, .getfield 19, 3, 3, 1, 72, .null), (33, .imul, 1, 0, 0, 0, .null), (34, .iload_n 2, 1, 2, 0, 0, .null), (35, .iadd, 1, 0, 0, 0, .null), (36, .dup2, 1, 0, 0, 0, .null)] = true := by decide +kernel
theorem ok_X3_add_37 : ab_ok M_X3_add (37, .iaload, 1, 0, 0, 0, .null) = true := by decide +kernel
theorem g_X3_add_38_2 : ab_oks M_X3_add [(38, .iload_n 3, 1, 3, 0, 0, .null), (39, .iadd, 1, 0, 0, 0, .null)] = true := by decide +kernel
theorem ok_X3_add_40 : ab_ok M_X3_add (40, .iastore, 1, 0, 0, 0, .null) = true := by decide +kernel
theorem dc_X3_add_41 : decode (AM.bytes M_X3_add) 41 = .ok (.return_, 1) := by decide +kernel
set_option maxRecDepth 100000 in
set_option maxHeartbeats 4000000 in
theorem s_3addT0 {E : AE} (d : Nat) (r : Nat) (c : Nat) (x : Int32)  {o0 t0 p0 m0 u0 l0 : List AC} {T K : Nat → Nat → Int32} {os sc : Int32} (hr : r < 13) (hc : c < 7) : CT E M_X3_add d [.ref 4098, .int (nI (r)), .int (nI (c)), .int (x)] (hp o0 (ar T K os sc) t0 p0 m0 u0 l0) (.inl none) (hp o0 (ar ((tu T 0 (upd (T 0) ((r * 7) + c) (((T 0) ((r * 7) + c)) + x)))) K os sc) t0 p0 m0 u0 l0) 0 0 := by
  refine CT.of (L := [some (.ref 4098), some (.int (nI (r))), some (.int (nI (c))), some (.int (x))]) rfl rfl ?_
  refine AR.run g_X3_add_0_1 1 [some (.ref 4098), some (.int (nI (r))), some (.int (nI (c))), some (.int (x))] [.int (nI (r))] _ [] rfl trivial ?_
  refine AR.ltN (tgt := 41) (a := r) dc_X3_add_1 (by decide) (by first | rfl | (simp only [nI_add, pk_mul]; first | done | rfl)) (by omega) (fun c1_1 => absurd c1_1 (fun q => q)) (fun c1_1 => ?_)
  refine AR.run g_X3_add_4_3 9 [some (.ref 4098), some (.int (nI (r))), some (.int (nI (c))), some (.int (x))] [.int (nI (13)), .int (nI (r))] _ [] rfl trivial ?_
  refine AR.ge2N (tgt := 41) (a := r) (b := 13) dc_X3_add_9 (by decide) (by first | rfl | (simp only [nI_add, pk_mul]; first | done | rfl)) (by first | rfl | (simp only [nI_add, pk_mul]; first | done | rfl)) (by omega) (by omega) (fun c9_2 => absurd c9_2 (by omega)) (fun c9_2 => ?_)
  refine AR.run g_X3_add_12_1 13 [some (.ref 4098), some (.int (nI (r))), some (.int (nI (c))), some (.int (x))] [.int (nI (c))] _ [] rfl trivial ?_
  refine AR.ltN (tgt := 41) (a := c) dc_X3_add_13 (by decide) (by first | rfl | (simp only [nI_add, pk_mul]; first | done | rfl)) (by omega) (fun c13_3 => absurd c13_3 (fun q => q)) (fun c13_3 => ?_)
  refine AR.run g_X3_add_16_3 21 [some (.ref 4098), some (.int (nI (r))), some (.int (nI (c))), some (.int (x))] [.int (nI (7)), .int (nI (c))] _ [] rfl trivial ?_
  refine AR.ge2N (tgt := 41) (a := c) (b := 7) dc_X3_add_21 (by decide) (by first | rfl | (simp only [nI_add, pk_mul]; first | done | rfl)) (by first | rfl | (simp only [nI_add, pk_mul]; first | done | rfl)) (by omega) (by omega) (fun c21_4 => absurd c21_4 (by omega)) (fun c21_4 => ?_)
  refine AR.run g_X3_add_24_9 37 [some (.ref 4098), some (.int (nI (r))), some (.int (nI (c))), some (.int (x))] [.int (((nI (r)) * (nI (7))) + (nI (c))), .ref 4099, .int (((nI (r)) * (nI (7))) + (nI (c))), .ref 4099] _ [] rfl trivial ?_
  refine AR.ald (n := 0) (e := ((r * 7) + c)) ok_X3_add_37 (by first | rfl | (simp only [nI_add, pk_mul]; first | done | rfl)) rfl (by omega) (by first | decide | omega) ?_
  refine AR.run g_X3_add_38_2 40 [some (.ref 4098), some (.int (nI (r))), some (.int (nI (c))), some (.int (x))] [.int (((T 0) ((r * 7) + c)) + x), .int (((nI (r)) * (nI (7))) + (nI (c))), .ref 4099] _ [] rfl trivial ?_
  refine AR.ast (n := 0) (e := ((r * 7) + c)) (h1 := (hp o0 (ar (tu T 0 (upd (T 0) ((r * 7) + c) (((T 0) ((r * 7) + c)) + x))) K os sc) t0 p0 m0 u0 l0)) ok_X3_add_40 (by first | rfl | (simp only [nI_add, pk_mul]; first | done | rfl)) rfl rfl (by omega) (by decide) rfl ?_
  exact AR.retV dc_X3_add_41 rfl rfl
set_option maxRecDepth 100000 in
set_option maxHeartbeats 4000000 in
theorem s_3atT1 {E : AE} (d : Nat) (r : Nat) (c : Nat)  {o0 t0 p0 m0 u0 l0 : List AC} {T K : Nat → Nat → Int32} {os sc : Int32} (hr : r < 13) (hc : c < 120) : CT E M_X3_at d [.ref 4101, .int (nI (r)), .int (nI (c))] (hp o0 (ar T K os sc) t0 p0 m0 u0 l0) (.inl (some (.int ((T 1) ((r * 120) + c))))) (hp o0 (ar T K os sc) t0 p0 m0 u0 l0) 0 0 := by
  refine CT.of (L := [some (.ref 4101), some (.int (nI (r))), some (.int (nI (c)))]) rfl rfl ?_
  refine AR.run g_X3_at_0_1 1 [some (.ref 4101), some (.int (nI (r))), some (.int (nI (c)))] [.int (nI (r))] _ [] rfl trivial ?_
  refine AR.ltN (tgt := 24) (a := r) dc_X3_at_1 (by decide) (by first | rfl | (simp only [nI_add, pk_mul]; first | done | rfl)) (by omega) (fun c1_1 => absurd c1_1 (fun q => q)) (fun c1_1 => ?_)
  refine AR.run g_X3_at_4_3 9 [some (.ref 4101), some (.int (nI (r))), some (.int (nI (c)))] [.int (nI (13)), .int (nI (r))] _ [] rfl trivial ?_
  refine AR.ge2N (tgt := 24) (a := r) (b := 13) dc_X3_at_9 (by decide) (by first | rfl | (simp only [nI_add, pk_mul]; first | done | rfl)) (by first | rfl | (simp only [nI_add, pk_mul]; first | done | rfl)) (by omega) (by omega) (fun c9_2 => absurd c9_2 (by omega)) (fun c9_2 => ?_)
  refine AR.run g_X3_at_12_1 13 [some (.ref 4101), some (.int (nI (r))), some (.int (nI (c)))] [.int (nI (c))] _ [] rfl trivial ?_
  refine AR.ltN (tgt := 24) (a := c) dc_X3_at_13 (by decide) (by first | rfl | (simp only [nI_add, pk_mul]; first | done | rfl)) (by omega) (fun c13_3 => absurd c13_3 (fun q => q)) (fun c13_3 => ?_)
  refine AR.run g_X3_at_16_3 21 [some (.ref 4101), some (.int (nI (r))), some (.int (nI (c)))] [.int (nI (120)), .int (nI (c))] _ [] rfl trivial ?_
  refine AR.lt2N (tgt := 26) (a := c) (b := 120) dc_X3_at_21 (by decide) (by first | rfl | (simp only [nI_add, pk_mul]; first | done | rfl)) (by first | rfl | (simp only [nI_add, pk_mul]; first | done | rfl)) (by omega) (by omega) (fun c21_4 => ?_) (fun c21_4 => absurd c21_4 (by omega))
  refine AR.run g_X3_at_26_8 38 [some (.ref 4101), some (.int (nI (r))), some (.int (nI (c)))] [.int (((nI (r)) * (nI (120))) + (nI (c))), .ref 4102] _ [] rfl trivial ?_
  refine AR.ald (n := 0) (e := ((r * 120) + c)) ok_X3_at_38 (by first | rfl | (simp only [nI_add, pk_mul]; first | done | rfl)) rfl (by omega) (by first | decide | omega) ?_
  exact AR.retI dc_X3_at_39 rfl rfl rfl
set_option maxRecDepth 100000 in
set_option maxHeartbeats 4000000 in
theorem s_3putT1 {E : AE} (d : Nat) (r : Nat) (c : Nat) (x : Int32)  {o0 t0 p0 m0 u0 l0 : List AC} {T K : Nat → Nat → Int32} {os sc : Int32} (hr : r < 13) (hc : c < 120) : CT E M_X3_put d [.ref 4101, .int (nI (r)), .int (nI (c)), .int (x)] (hp o0 (ar T K os sc) t0 p0 m0 u0 l0) (.inl none) (hp o0 (ar ((tu T 1 (upd (T 1) ((r * 120) + c) x))) K os sc) t0 p0 m0 u0 l0) 0 0 := by
  refine CT.of (L := [some (.ref 4101), some (.int (nI (r))), some (.int (nI (c))), some (.int (x))]) rfl rfl ?_
  refine AR.run g_X3_put_0_1 1 [some (.ref 4101), some (.int (nI (r))), some (.int (nI (c))), some (.int (x))] [.int (nI (r))] _ [] rfl trivial ?_
  refine AR.ltN (tgt := 38) (a := r) dc_X3_put_1 (by decide) (by first | rfl | (simp only [nI_add, pk_mul]; first | done | rfl)) (by omega) (fun c1_1 => absurd c1_1 (fun q => q)) (fun c1_1 => ?_)
  refine AR.run g_X3_put_4_3 9 [some (.ref 4101), some (.int (nI (r))), some (.int (nI (c))), some (.int (x))] [.int (nI (13)), .int (nI (r))] _ [] rfl trivial ?_
  refine AR.ge2N (tgt := 38) (a := r) (b := 13) dc_X3_put_9 (by decide) (by first | rfl | (simp only [nI_add, pk_mul]; first | done | rfl)) (by first | rfl | (simp only [nI_add, pk_mul]; first | done | rfl)) (by omega) (by omega) (fun c9_2 => absurd c9_2 (by omega)) (fun c9_2 => ?_)
  refine AR.run g_X3_put_12_1 13 [some (.ref 4101), some (.int (nI (r))), some (.int (nI (c))), some (.int (x))] [.int (nI (c))] _ [] rfl trivial ?_
  refine AR.ltN (tgt := 38) (a := c) dc_X3_put_13 (by decide) (by first | rfl | (simp only [nI_add, pk_mul]; first | done | rfl)) (by omega) (fun c13_3 => absurd c13_3 (fun q => q)) (fun c13_3 => ?_)
  refine AR.run g_X3_put_16_3 21 [some (.ref 4101), some (.int (nI (r))), some (.int (nI (c))), some (.int (x))] [.int (nI (120)), .int (nI (c))] _ [] rfl trivial ?_
  refine AR.ge2N (tgt := 38) (a := c) (b := 120) dc_X3_put_21 (by decide) (by first | rfl | (simp only [nI_add, pk_mul]; first | done | rfl)) (by first | rfl | (simp only [nI_add, pk_mul]; first | done | rfl)) (by omega) (by omega) (fun c21_4 => absurd c21_4 (by omega)) (fun c21_4 => ?_)
  refine AR.run g_X3_put_24_9 37 [some (.ref 4101), some (.int (nI (r))), some (.int (nI (c))), some (.int (x))] [.int (x), .int (((nI (r)) * (nI (120))) + (nI (c))), .ref 4102] _ [] rfl trivial ?_
  refine AR.ast (n := 0) (e := ((r * 120) + c)) (h1 := (hp o0 (ar (tu T 1 (upd (T 1) ((r * 120) + c) x)) K os sc) t0 p0 m0 u0 l0)) ok_X3_put_37 (by first | rfl | (simp only [nI_add, pk_mul]; first | done | rfl)) rfl rfl (by omega) (by decide) rfl ?_
  exact AR.retV dc_X3_put_38 rfl rfl
set_option maxRecDepth 100000 in
set_option maxHeartbeats 4000000 in
theorem s_3addT1 {E : AE} (d : Nat) (r : Nat) (c : Nat) (x : Int32)  {o0 t0 p0 m0 u0 l0 : List AC} {T K : Nat → Nat → Int32} {os sc : Int32} (hr : r < 13) (hc : c < 120) : CT E M_X3_add d [.ref 4101, .int (nI (r)), .int (nI (c)), .int (x)] (hp o0 (ar T K os sc) t0 p0 m0 u0 l0) (.inl none) (hp o0 (ar ((tu T 1 (upd (T 1) ((r * 120) + c) (((T 1) ((r * 120) + c)) + x)))) K os sc) t0 p0 m0 u0 l0) 0 0 := by
  refine CT.of (L := [some (.ref 4101), some (.int (nI (r))), some (.int (nI (c))), some (.int (x))]) rfl rfl ?_
  refine AR.run g_X3_add_0_1 1 [some (.ref 4101), some (.int (nI (r))), some (.int (nI (c))), some (.int (x))] [.int (nI (r))] _ [] rfl trivial ?_
  refine AR.ltN (tgt := 41) (a := r) dc_X3_add_1 (by decide) (by first | rfl | (simp only [nI_add, pk_mul]; first | done | rfl)) (by omega) (fun c1_1 => absurd c1_1 (fun q => q)) (fun c1_1 => ?_)
  refine AR.run g_X3_add_4_3 9 [some (.ref 4101), some (.int (nI (r))), some (.int (nI (c))), some (.int (x))] [.int (nI (13)), .int (nI (r))] _ [] rfl trivial ?_
  refine AR.ge2N (tgt := 41) (a := r) (b := 13) dc_X3_add_9 (by decide) (by first | rfl | (simp only [nI_add, pk_mul]; first | done | rfl)) (by first | rfl | (simp only [nI_add, pk_mul]; first | done | rfl)) (by omega) (by omega) (fun c9_2 => absurd c9_2 (by omega)) (fun c9_2 => ?_)
  refine AR.run g_X3_add_12_1 13 [some (.ref 4101), some (.int (nI (r))), some (.int (nI (c))), some (.int (x))] [.int (nI (c))] _ [] rfl trivial ?_
  refine AR.ltN (tgt := 41) (a := c) dc_X3_add_13 (by decide) (by first | rfl | (simp only [nI_add, pk_mul]; first | done | rfl)) (by omega) (fun c13_3 => absurd c13_3 (fun q => q)) (fun c13_3 => ?_)
  refine AR.run g_X3_add_16_3 21 [some (.ref 4101), some (.int (nI (r))), some (.int (nI (c))), some (.int (x))] [.int (nI (120)), .int (nI (c))] _ [] rfl trivial ?_
  refine AR.ge2N (tgt := 41) (a := c) (b := 120) dc_X3_add_21 (by decide) (by first | rfl | (simp only [nI_add, pk_mul]; first | done | rfl)) (by first | rfl | (simp only [nI_add, pk_mul]; first | done | rfl)) (by omega) (by omega) (fun c21_4 => absurd c21_4 (by omega)) (fun c21_4 => ?_)
  refine AR.run g_X3_add_24_9 37 [some (.ref 4101), some (.int (nI (r))), some (.int (nI (c))), some (.int (x))] [.int (((nI (r)) * (nI (120))) + (nI (c))), .ref 4102, .int (((nI (r)) * (nI (120))) + (nI (c))), .ref 4102] _ [] rfl trivial ?_
  refine AR.ald (n := 0) (e := ((r * 120) + c)) ok_X3_add_37 (by first | rfl | (simp only [nI_add, pk_mul]; first | done | rfl)) rfl (by omega) (by first | decide | omega) ?_
  refine AR.run g_X3_add_38_2 40 [some (.ref 4101), some (.int (nI (r))), some (.int (nI (c))), some (.int (x))] [.int (((T 1) ((r * 120) + c)) + x), .int (((nI (r)) * (nI (120))) + (nI (c))), .ref 4102] _ [] rfl trivial ?_
  refine AR.ast (n := 0) (e := ((r * 120) + c)) (h1 := (hp o0 (ar (tu T 1 (upd (T 1) ((r * 120) + c) (((T 1) ((r * 120) + c)) + x))) K os sc) t0 p0 m0 u0 l0)) ok_X3_add_40 (by first | rfl | (simp only [nI_add, pk_mul]; first | done | rfl)) rfl rfl (by omega) (by decide) rfl ?_
  exact AR.retV dc_X3_add_41 rfl rfl
set_option maxRecDepth 100000 in
set_option maxHeartbeats 4000000 in
theorem s_3atT2 {E : AE} (d : Nat) (r : Nat) (c : Nat)  {o0 t0 p0 m0 u0 l0 : List AC} {T K : Nat → Nat → Int32} {os sc : Int32} (hr : r < 5) (hc : c < 5) : CT E M_X3_at d [.ref 4104, .int (nI (r)), .int (nI (c))] (hp o0 (ar T K os sc) t0 p0 m0 u0 l0) (.inl (some (.int ((T 2) ((r * 5) + c))))) (hp o0 (ar T K os sc) t0 p0 m0 u0 l0) 0 0 := by
  refine CT.of (L := [some (.ref 4104), some (.int (nI (r))), some (.int (nI (c)))]) rfl rfl ?_
  refine AR.run g_X3_at_0_1 1 [some (.ref 4104), some (.int (nI (r))), some (.int (nI (c)))] [.int (nI (r))] _ [] rfl trivial ?_
  refine AR.ltN (tgt := 24) (a := r) dc_X3_at_1 (by decide) (by first | rfl | (simp only [nI_add, pk_mul]; first | done | rfl)) (by omega) (fun c1_1 => absurd c1_1 (fun q => q)) (fun c1_1 => ?_)
  refine AR.run g_X3_at_4_3 9 [some (.ref 4104), some (.int (nI (r))), some (.int (nI (c)))] [.int (nI (5)), .int (nI (r))] _ [] rfl trivial ?_
  refine AR.ge2N (tgt := 24) (a := r) (b := 5) dc_X3_at_9 (by decide) (by first | rfl | (simp only [nI_add, pk_mul]; first | done | rfl)) (by first | rfl | (simp only [nI_add, pk_mul]; first | done | rfl)) (by omega) (by omega) (fun c9_2 => absurd c9_2 (by omega)) (fun c9_2 => ?_)
  refine AR.run g_X3_at_12_1 13 [some (.ref 4104), some (.int (nI (r))), some (.int (nI (c)))] [.int (nI (c))] _ [] rfl trivial ?_
  refine AR.ltN (tgt := 24) (a := c) dc_X3_at_13 (by decide) (by first | rfl | (simp only [nI_add, pk_mul]; first | done | rfl)) (by omega) (fun c13_3 => absurd c13_3 (fun q => q)) (fun c13_3 => ?_)
  refine AR.run g_X3_at_16_3 21 [some (.ref 4104), some (.int (nI (r))), some (.int (nI (c)))] [.int (nI (5)), .int (nI (c))] _ [] rfl trivial ?_
  refine AR.lt2N (tgt := 26) (a := c) (b := 5) dc_X3_at_21 (by decide) (by first | rfl | (simp only [nI_add, pk_mul]; first | done | rfl)) (by first | rfl | (simp only [nI_add, pk_mul]; first | done | rfl)) (by omega) (by omega) (fun c21_4 => ?_) (fun c21_4 => absurd c21_4 (by omega))
  refine AR.run g_X3_at_26_8 38 [some (.ref 4104), some (.int (nI (r))), some (.int (nI (c)))] [.int (((nI (r)) * (nI (5))) + (nI (c))), .ref 4105] _ [] rfl trivial ?_
  refine AR.ald (n := 0) (e := ((r * 5) + c)) ok_X3_at_38 (by first | rfl | (simp only [nI_add, pk_mul]; first | done | rfl)) rfl (by omega) (by first | decide | omega) ?_
  exact AR.retI dc_X3_at_39 rfl rfl rfl
set_option maxRecDepth 100000 in
set_option maxHeartbeats 4000000 in
theorem s_3putT2 {E : AE} (d : Nat) (r : Nat) (c : Nat) (x : Int32)  {o0 t0 p0 m0 u0 l0 : List AC} {T K : Nat → Nat → Int32} {os sc : Int32} (hr : r < 5) (hc : c < 5) : CT E M_X3_put d [.ref 4104, .int (nI (r)), .int (nI (c)), .int (x)] (hp o0 (ar T K os sc) t0 p0 m0 u0 l0) (.inl none) (hp o0 (ar ((tu T 2 (upd (T 2) ((r * 5) + c) x))) K os sc) t0 p0 m0 u0 l0) 0 0 := by
  refine CT.of (L := [some (.ref 4104), some (.int (nI (r))), some (.int (nI (c))), some (.int (x))]) rfl rfl ?_
  refine AR.run g_X3_put_0_1 1 [some (.ref 4104), some (.int (nI (r))), some (.int (nI (c))), some (.int (x))] [.int (nI (r))] _ [] rfl trivial ?_
  refine AR.ltN (tgt := 38) (a := r) dc_X3_put_1 (by decide) (by first | rfl | (simp only [nI_add, pk_mul]; first | done | rfl)) (by omega) (fun c1_1 => absurd c1_1 (fun q => q)) (fun c1_1 => ?_)
  refine AR.run g_X3_put_4_3 9 [some (.ref 4104), some (.int (nI (r))), some (.int (nI (c))), some (.int (x))] [.int (nI (5)), .int (nI (r))] _ [] rfl trivial ?_
  refine AR.ge2N (tgt := 38) (a := r) (b := 5) dc_X3_put_9 (by decide) (by first | rfl | (simp only [nI_add, pk_mul]; first | done | rfl)) (by first | rfl | (simp only [nI_add, pk_mul]; first | done | rfl)) (by omega) (by omega) (fun c9_2 => absurd c9_2 (by omega)) (fun c9_2 => ?_)
  refine AR.run g_X3_put_12_1 13 [some (.ref 4104), some (.int (nI (r))), some (.int (nI (c))), some (.int (x))] [.int (nI (c))] _ [] rfl trivial ?_
  refine AR.ltN (tgt := 38) (a := c) dc_X3_put_13 (by decide) (by first | rfl | (simp only [nI_add, pk_mul]; first | done | rfl)) (by omega) (fun c13_3 => absurd c13_3 (fun q => q)) (fun c13_3 => ?_)
  refine AR.run g_X3_put_16_3 21 [some (.ref 4104), some (.int (nI (r))), some (.int (nI (c))), some (.int (x))] [.int (nI (5)), .int (nI (c))] _ [] rfl trivial ?_
  refine AR.ge2N (tgt := 38) (a := c) (b := 5) dc_X3_put_21 (by decide) (by first | rfl | (simp only [nI_add, pk_mul]; first | done | rfl)) (by first | rfl | (simp only [nI_add, pk_mul]; first | done | rfl)) (by omega) (by omega) (fun c21_4 => absurd c21_4 (by omega)) (fun c21_4 => ?_)
  refine AR.run g_X3_put_24_9 37 [some (.ref 4104), some (.int (nI (r))), some (.int (nI (c))), some (.int (x))] [.int (x), .int (((nI (r)) * (nI (5))) + (nI (c))), .ref 4105] _ [] rfl trivial ?_
  refine AR.ast (n := 0) (e := ((r * 5) + c)) (h1 := (hp o0 (ar (tu T 2 (upd (T 2) ((r * 5) + c) x)) K os sc) t0 p0 m0 u0 l0)) ok_X3_put_37 (by first | rfl | (simp only [nI_add, pk_mul]; first | done | rfl)) rfl rfl (by omega) (by decide) rfl ?_
  exact AR.retV dc_X3_put_38 rfl rfl
set_option maxRecDepth 100000 in
set_option maxHeartbeats 4000000 in
theorem s_3addT2 {E : AE} (d : Nat) (r : Nat) (c : Nat) (x : Int32)  {o0 t0 p0 m0 u0 l0 : List AC} {T K : Nat → Nat → Int32} {os sc : Int32} (hr : r < 5) (hc : c < 5) : CT E M_X3_add d [.ref 4104, .int (nI (r)), .int (nI (c)), .int (x)] (hp o0 (ar T K os sc) t0 p0 m0 u0 l0) (.inl none) (hp o0 (ar ((tu T 2 (upd (T 2) ((r * 5) + c) (((T 2) ((r * 5) + c)) + x)))) K os sc) t0 p0 m0 u0 l0) 0 0 := by
  refine CT.of (L := [some (.ref 4104), some (.int (nI (r))), some (.int (nI (c))), some (.int (x))]) rfl rfl ?_
  refine AR.run g_X3_add_0_1 1 [some (.ref 4104), some (.int (nI (r))), some (.int (nI (c))), some (.int (x))] [.int (nI (r))] _ [] rfl trivial ?_
  refine AR.ltN (tgt := 41) (a := r) dc_X3_add_1 (by decide) (by first | rfl | (simp only [nI_add, pk_mul]; first | done | rfl)) (by omega) (fun c1_1 => absurd c1_1 (fun q => q)) (fun c1_1 => ?_)
  refine AR.run g_X3_add_4_3 9 [some (.ref 4104), some (.int (nI (r))), some (.int (nI (c))), some (.int (x))] [.int (nI (5)), .int (nI (r))] _ [] rfl trivial ?_
  refine AR.ge2N (tgt := 41) (a := r) (b := 5) dc_X3_add_9 (by decide) (by first | rfl | (simp only [nI_add, pk_mul]; first | done | rfl)) (by first | rfl | (simp only [nI_add, pk_mul]; first | done | rfl)) (by omega) (by omega) (fun c9_2 => absurd c9_2 (by omega)) (fun c9_2 => ?_)
  refine AR.run g_X3_add_12_1 13 [some (.ref 4104), some (.int (nI (r))), some (.int (nI (c))), some (.int (x))] [.int (nI (c))] _ [] rfl trivial ?_
  refine AR.ltN (tgt := 41) (a := c) dc_X3_add_13 (by decide) (by first | rfl | (simp only [nI_add, pk_mul]; first | done | rfl)) (by omega) (fun c13_3 => absurd c13_3 (fun q => q)) (fun c13_3 => ?_)
  refine AR.run g_X3_add_16_3 21 [some (.ref 4104), some (.int (nI (r))), some (.int (nI (c))), some (.int (x))] [.int (nI (5)), .int (nI (c))] _ [] rfl trivial ?_
  refine AR.ge2N (tgt := 41) (a := c) (b := 5) dc_X3_add_21 (by decide) (by first | rfl | (simp only [nI_add, pk_mul]; first | done | rfl)) (by first | rfl | (simp only [nI_add, pk_mul]; first | done | rfl)) (by omega) (by omega) (fun c21_4 => absurd c21_4 (by omega)) (fun c21_4 => ?_)
  refine AR.run g_X3_add_24_9 37 [some (.ref 4104), some (.int (nI (r))), some (.int (nI (c))), some (.int (x))] [.int (((nI (r)) * (nI (5))) + (nI (c))), .ref 4105, .int (((nI (r)) * (nI (5))) + (nI (c))), .ref 4105] _ [] rfl trivial ?_
  refine AR.ald (n := 0) (e := ((r * 5) + c)) ok_X3_add_37 (by first | rfl | (simp only [nI_add, pk_mul]; first | done | rfl)) rfl (by omega) (by first | decide | omega) ?_
  refine AR.run g_X3_add_38_2 40 [some (.ref 4104), some (.int (nI (r))), some (.int (nI (c))), some (.int (x))] [.int (((T 2) ((r * 5) + c)) + x), .int (((nI (r)) * (nI (5))) + (nI (c))), .ref 4105] _ [] rfl trivial ?_
  refine AR.ast (n := 0) (e := ((r * 5) + c)) (h1 := (hp o0 (ar (tu T 2 (upd (T 2) ((r * 5) + c) (((T 2) ((r * 5) + c)) + x))) K os sc) t0 p0 m0 u0 l0)) ok_X3_add_40 (by first | rfl | (simp only [nI_add, pk_mul]; first | done | rfl)) rfl rfl (by omega) (by decide) rfl ?_
  exact AR.retV dc_X3_add_41 rfl rfl
set_option maxRecDepth 100000 in
set_option maxHeartbeats 4000000 in
theorem s_3atT3 {E : AE} (d : Nat) (r : Nat) (c : Nat)  {o0 t0 p0 m0 u0 l0 : List AC} {T K : Nat → Nat → Int32} {os sc : Int32} (hr : r < 3) (hc : c < 4) : CT E M_X3_at d [.ref 4107, .int (nI (r)), .int (nI (c))] (hp o0 (ar T K os sc) t0 p0 m0 u0 l0) (.inl (some (.int ((T 3) ((r * 4) + c))))) (hp o0 (ar T K os sc) t0 p0 m0 u0 l0) 0 0 := by
  refine CT.of (L := [some (.ref 4107), some (.int (nI (r))), some (.int (nI (c)))]) rfl rfl ?_
  refine AR.run g_X3_at_0_1 1 [some (.ref 4107), some (.int (nI (r))), some (.int (nI (c)))] [.int (nI (r))] _ [] rfl trivial ?_
  refine AR.ltN (tgt := 24) (a := r) dc_X3_at_1 (by decide) (by first | rfl | (simp only [nI_add, pk_mul]; first | done | rfl)) (by omega) (fun c1_1 => absurd c1_1 (fun q => q)) (fun c1_1 => ?_)
  refine AR.run g_X3_at_4_3 9 [some (.ref 4107), some (.int (nI (r))), some (.int (nI (c)))] [.int (nI (3)), .int (nI (r))] _ [] rfl trivial ?_
  refine AR.ge2N (tgt := 24) (a := r) (b := 3) dc_X3_at_9 (by decide) (by first | rfl | (simp only [nI_add, pk_mul]; first | done | rfl)) (by first | rfl | (simp only [nI_add, pk_mul]; first | done | rfl)) (by omega) (by omega) (fun c9_2 => absurd c9_2 (by omega)) (fun c9_2 => ?_)
  refine AR.run g_X3_at_12_1 13 [some (.ref 4107), some (.int (nI (r))), some (.int (nI (c)))] [.int (nI (c))] _ [] rfl trivial ?_
  refine AR.ltN (tgt := 24) (a := c) dc_X3_at_13 (by decide) (by first | rfl | (simp only [nI_add, pk_mul]; first | done | rfl)) (by omega) (fun c13_3 => absurd c13_3 (fun q => q)) (fun c13_3 => ?_)
  refine AR.run g_X3_at_16_3 21 [some (.ref 4107), some (.int (nI (r))), some (.int (nI (c)))] [.int (nI (4)), .int (nI (c))] _ [] rfl trivial ?_
  refine AR.lt2N (tgt := 26) (a := c) (b := 4) dc_X3_at_21 (by decide) (by first | rfl | (simp only [nI_add, pk_mul]; first | done | rfl)) (by first | rfl | (simp only [nI_add, pk_mul]; first | done | rfl)) (by omega) (by omega) (fun c21_4 => ?_) (fun c21_4 => absurd c21_4 (by omega))
  refine AR.run g_X3_at_26_8 38 [some (.ref 4107), some (.int (nI (r))), some (.int (nI (c)))] [.int (((nI (r)) * (nI (4))) + (nI (c))), .ref 4108] _ [] rfl trivial ?_
  refine AR.ald (n := 0) (e := ((r * 4) + c)) ok_X3_at_38 (by first | rfl | (simp only [nI_add, pk_mul]; first | done | rfl)) rfl (by omega) (by first | decide | omega) ?_
  exact AR.retI dc_X3_at_39 rfl rfl rfl
set_option maxRecDepth 100000 in
set_option maxHeartbeats 4000000 in
theorem s_3putT3 {E : AE} (d : Nat) (r : Nat) (c : Nat) (x : Int32)  {o0 t0 p0 m0 u0 l0 : List AC} {T K : Nat → Nat → Int32} {os sc : Int32} (hr : r < 3) (hc : c < 4) : CT E M_X3_put d [.ref 4107, .int (nI (r)), .int (nI (c)), .int (x)] (hp o0 (ar T K os sc) t0 p0 m0 u0 l0) (.inl none) (hp o0 (ar ((tu T 3 (upd (T 3) ((r * 4) + c) x))) K os sc) t0 p0 m0 u0 l0) 0 0 := by
  refine CT.of (L := [some (.ref 4107), some (.int (nI (r))), some (.int (nI (c))), some (.int (x))]) rfl rfl ?_
  refine AR.run g_X3_put_0_1 1 [some (.ref 4107), some (.int (nI (r))), some (.int (nI (c))), some (.int (x))] [.int (nI (r))] _ [] rfl trivial ?_
  refine AR.ltN (tgt := 38) (a := r) dc_X3_put_1 (by decide) (by first | rfl | (simp only [nI_add, pk_mul]; first | done | rfl)) (by omega) (fun c1_1 => absurd c1_1 (fun q => q)) (fun c1_1 => ?_)
  refine AR.run g_X3_put_4_3 9 [some (.ref 4107), some (.int (nI (r))), some (.int (nI (c))), some (.int (x))] [.int (nI (3)), .int (nI (r))] _ [] rfl trivial ?_
  refine AR.ge2N (tgt := 38) (a := r) (b := 3) dc_X3_put_9 (by decide) (by first | rfl | (simp only [nI_add, pk_mul]; first | done | rfl)) (by first | rfl | (simp only [nI_add, pk_mul]; first | done | rfl)) (by omega) (by omega) (fun c9_2 => absurd c9_2 (by omega)) (fun c9_2 => ?_)
  refine AR.run g_X3_put_12_1 13 [some (.ref 4107), some (.int (nI (r))), some (.int (nI (c))), some (.int (x))] [.int (nI (c))] _ [] rfl trivial ?_
  refine AR.ltN (tgt := 38) (a := c) dc_X3_put_13 (by decide) (by first | rfl | (simp only [nI_add, pk_mul]; first | done | rfl)) (by omega) (fun c13_3 => absurd c13_3 (fun q => q)) (fun c13_3 => ?_)
  refine AR.run g_X3_put_16_3 21 [some (.ref 4107), some (.int (nI (r))), some (.int (nI (c))), some (.int (x))] [.int (nI (4)), .int (nI (c))] _ [] rfl trivial ?_
  refine AR.ge2N (tgt := 38) (a := c) (b := 4) dc_X3_put_21 (by decide) (by first | rfl | (simp only [nI_add, pk_mul]; first | done | rfl)) (by first | rfl | (simp only [nI_add, pk_mul]; first | done | rfl)) (by omega) (by omega) (fun c21_4 => absurd c21_4 (by omega)) (fun c21_4 => ?_)
  refine AR.run g_X3_put_24_9 37 [some (.ref 4107), some (.int (nI (r))), some (.int (nI (c))), some (.int (x))] [.int (x), .int (((nI (r)) * (nI (4))) + (nI (c))), .ref 4108] _ [] rfl trivial ?_
  refine AR.ast (n := 0) (e := ((r * 4) + c)) (h1 := (hp o0 (ar (tu T 3 (upd (T 3) ((r * 4) + c) x)) K os sc) t0 p0 m0 u0 l0)) ok_X3_put_37 (by first | rfl | (simp only [nI_add, pk_mul]; first | done | rfl)) rfl rfl (by omega) (by decide) rfl ?_
  exact AR.retV dc_X3_put_38 rfl rfl
set_option maxRecDepth 100000 in
set_option maxHeartbeats 4000000 in
theorem s_3addT3 {E : AE} (d : Nat) (r : Nat) (c : Nat) (x : Int32)  {o0 t0 p0 m0 u0 l0 : List AC} {T K : Nat → Nat → Int32} {os sc : Int32} (hr : r < 3) (hc : c < 4) : CT E M_X3_add d [.ref 4107, .int (nI (r)), .int (nI (c)), .int (x)] (hp o0 (ar T K os sc) t0 p0 m0 u0 l0) (.inl none) (hp o0 (ar ((tu T 3 (upd (T 3) ((r * 4) + c) (((T 3) ((r * 4) + c)) + x)))) K os sc) t0 p0 m0 u0 l0) 0 0 := by
  refine CT.of (L := [some (.ref 4107), some (.int (nI (r))), some (.int (nI (c))), some (.int (x))]) rfl rfl ?_
  refine AR.run g_X3_add_0_1 1 [some (.ref 4107), some (.int (nI (r))), some (.int (nI (c))), some (.int (x))] [.int (nI (r))] _ [] rfl trivial ?_
  refine AR.ltN (tgt := 41) (a := r) dc_X3_add_1 (by decide) (by first | rfl | (simp only [nI_add, pk_mul]; first | done | rfl)) (by omega) (fun c1_1 => absurd c1_1 (fun q => q)) (fun c1_1 => ?_)
  refine AR.run g_X3_add_4_3 9 [some (.ref 4107), some (.int (nI (r))), some (.int (nI (c))), some (.int (x))] [.int (nI (3)), .int (nI (r))] _ [] rfl trivial ?_
  refine AR.ge2N (tgt := 41) (a := r) (b := 3) dc_X3_add_9 (by decide) (by first | rfl | (simp only [nI_add, pk_mul]; first | done | rfl)) (by first | rfl | (simp only [nI_add, pk_mul]; first | done | rfl)) (by omega) (by omega) (fun c9_2 => absurd c9_2 (by omega)) (fun c9_2 => ?_)
  refine AR.run g_X3_add_12_1 13 [some (.ref 4107), some (.int (nI (r))), some (.int (nI (c))), some (.int (x))] [.int (nI (c))] _ [] rfl trivial ?_
  refine AR.ltN (tgt := 41) (a := c) dc_X3_add_13 (by decide) (by first | rfl | (simp only [nI_add, pk_mul]; first | done | rfl)) (by omega) (fun c13_3 => absurd c13_3 (fun q => q)) (fun c13_3 => ?_)
  refine AR.run g_X3_add_16_3 21 [some (.ref 4107), some (.int (nI (r))), some (.int (nI (c))), some (.int (x))] [.int (nI (4)), .int (nI (c))] _ [] rfl trivial ?_
  refine AR.ge2N (tgt := 41) (a := c) (b := 4) dc_X3_add_21 (by decide) (by first | rfl | (simp only [nI_add, pk_mul]; first | done | rfl)) (by first | rfl | (simp only [nI_add, pk_mul]; first | done | rfl)) (by omega) (by omega) (fun c21_4 => absurd c21_4 (by omega)) (fun c21_4 => ?_)
  refine AR.run g_X3_add_24_9 37 [some (.ref 4107), some (.int (nI (r))), some (.int (nI (c))), some (.int (x))] [.int (((nI (r)) * (nI (4))) + (nI (c))), .ref 4108, .int (((nI (r)) * (nI (4))) + (nI (c))), .ref 4108] _ [] rfl trivial ?_
  refine AR.ald (n := 0) (e := ((r * 4) + c)) ok_X3_add_37 (by first | rfl | (simp only [nI_add, pk_mul]; first | done | rfl)) rfl (by omega) (by first | decide | omega) ?_
  refine AR.run g_X3_add_38_2 40 [some (.ref 4107), some (.int (nI (r))), some (.int (nI (c))), some (.int (x))] [.int (((T 3) ((r * 4) + c)) + x), .int (((nI (r)) * (nI (4))) + (nI (c))), .ref 4108] _ [] rfl trivial ?_
  refine AR.ast (n := 0) (e := ((r * 4) + c)) (h1 := (hp o0 (ar (tu T 3 (upd (T 3) ((r * 4) + c) (((T 3) ((r * 4) + c)) + x))) K os sc) t0 p0 m0 u0 l0)) ok_X3_add_40 (by first | rfl | (simp only [nI_add, pk_mul]; first | done | rfl)) rfl rfl (by omega) (by decide) rfl ?_
  exact AR.retV dc_X3_add_41 rfl rfl
set_option maxRecDepth 100000 in
set_option maxHeartbeats 4000000 in
theorem s_3atT4 {E : AE} (d : Nat) (r : Nat) (c : Nat)  {o0 t0 p0 m0 u0 l0 : List AC} {T K : Nat → Nat → Int32} {os sc : Int32} (hr : r < 60) (hc : c < 5) : CT E M_X3_at d [.ref 4110, .int (nI (r)), .int (nI (c))] (hp o0 (ar T K os sc) t0 p0 m0 u0 l0) (.inl (some (.int ((T 4) ((r * 5) + c))))) (hp o0 (ar T K os sc) t0 p0 m0 u0 l0) 0 0 := by
  refine CT.of (L := [some (.ref 4110), some (.int (nI (r))), some (.int (nI (c)))]) rfl rfl ?_
  refine AR.run g_X3_at_0_1 1 [some (.ref 4110), some (.int (nI (r))), some (.int (nI (c)))] [.int (nI (r))] _ [] rfl trivial ?_
  refine AR.ltN (tgt := 24) (a := r) dc_X3_at_1 (by decide) (by first | rfl | (simp only [nI_add, pk_mul]; first | done | rfl)) (by omega) (fun c1_1 => absurd c1_1 (fun q => q)) (fun c1_1 => ?_)
  refine AR.run g_X3_at_4_3 9 [some (.ref 4110), some (.int (nI (r))), some (.int (nI (c)))] [.int (nI (60)), .int (nI (r))] _ [] rfl trivial ?_
  refine AR.ge2N (tgt := 24) (a := r) (b := 60) dc_X3_at_9 (by decide) (by first | rfl | (simp only [nI_add, pk_mul]; first | done | rfl)) (by first | rfl | (simp only [nI_add, pk_mul]; first | done | rfl)) (by omega) (by omega) (fun c9_2 => absurd c9_2 (by omega)) (fun c9_2 => ?_)
  refine AR.run g_X3_at_12_1 13 [some (.ref 4110), some (.int (nI (r))), some (.int (nI (c)))] [.int (nI (c))] _ [] rfl trivial ?_
  refine AR.ltN (tgt := 24) (a := c) dc_X3_at_13 (by decide) (by first | rfl | (simp only [nI_add, pk_mul]; first | done | rfl)) (by omega) (fun c13_3 => absurd c13_3 (fun q => q)) (fun c13_3 => ?_)
  refine AR.run g_X3_at_16_3 21 [some (.ref 4110), some (.int (nI (r))), some (.int (nI (c)))] [.int (nI (5)), .int (nI (c))] _ [] rfl trivial ?_
  refine AR.lt2N (tgt := 26) (a := c) (b := 5) dc_X3_at_21 (by decide) (by first | rfl | (simp only [nI_add, pk_mul]; first | done | rfl)) (by first | rfl | (simp only [nI_add, pk_mul]; first | done | rfl)) (by omega) (by omega) (fun c21_4 => ?_) (fun c21_4 => absurd c21_4 (by omega))
  refine AR.run g_X3_at_26_8 38 [some (.ref 4110), some (.int (nI (r))), some (.int (nI (c)))] [.int (((nI (r)) * (nI (5))) + (nI (c))), .ref 4111] _ [] rfl trivial ?_
  refine AR.ald (n := 0) (e := ((r * 5) + c)) ok_X3_at_38 (by first | rfl | (simp only [nI_add, pk_mul]; first | done | rfl)) rfl (by omega) (by first | decide | omega) ?_
  exact AR.retI dc_X3_at_39 rfl rfl rfl
set_option maxRecDepth 100000 in
set_option maxHeartbeats 4000000 in
theorem s_3putT4 {E : AE} (d : Nat) (r : Nat) (c : Nat) (x : Int32)  {o0 t0 p0 m0 u0 l0 : List AC} {T K : Nat → Nat → Int32} {os sc : Int32} (hr : r < 60) (hc : c < 5) : CT E M_X3_put d [.ref 4110, .int (nI (r)), .int (nI (c)), .int (x)] (hp o0 (ar T K os sc) t0 p0 m0 u0 l0) (.inl none) (hp o0 (ar ((tu T 4 (upd (T 4) ((r * 5) + c) x))) K os sc) t0 p0 m0 u0 l0) 0 0 := by
  refine CT.of (L := [some (.ref 4110), some (.int (nI (r))), some (.int (nI (c))), some (.int (x))]) rfl rfl ?_
  refine AR.run g_X3_put_0_1 1 [some (.ref 4110), some (.int (nI (r))), some (.int (nI (c))), some (.int (x))] [.int (nI (r))] _ [] rfl trivial ?_
  refine AR.ltN (tgt := 38) (a := r) dc_X3_put_1 (by decide) (by first | rfl | (simp only [nI_add, pk_mul]; first | done | rfl)) (by omega) (fun c1_1 => absurd c1_1 (fun q => q)) (fun c1_1 => ?_)
  refine AR.run g_X3_put_4_3 9 [some (.ref 4110), some (.int (nI (r))), some (.int (nI (c))), some (.int (x))] [.int (nI (60)), .int (nI (r))] _ [] rfl trivial ?_
  refine AR.ge2N (tgt := 38) (a := r) (b := 60) dc_X3_put_9 (by decide) (by first | rfl | (simp only [nI_add, pk_mul]; first | done | rfl)) (by first | rfl | (simp only [nI_add, pk_mul]; first | done | rfl)) (by omega) (by omega) (fun c9_2 => absurd c9_2 (by omega)) (fun c9_2 => ?_)
  refine AR.run g_X3_put_12_1 13 [some (.ref 4110), some (.int (nI (r))), some (.int (nI (c))), some (.int (x))] [.int (nI (c))] _ [] rfl trivial ?_
  refine AR.ltN (tgt := 38) (a := c) dc_X3_put_13 (by decide) (by first | rfl | (simp only [nI_add, pk_mul]; first | done | rfl)) (by omega) (fun c13_3 => absurd c13_3 (fun q => q)) (fun c13_3 => ?_)
  refine AR.run g_X3_put_16_3 21 [some (.ref 4110), some (.int (nI (r))), some (.int (nI (c))), some (.int (x))] [.int (nI (5)), .int (nI (c))] _ [] rfl trivial ?_
  refine AR.ge2N (tgt := 38) (a := c) (b := 5) dc_X3_put_21 (by decide) (by first | rfl | (simp only [nI_add, pk_mul]; first | done | rfl)) (by first | rfl | (simp only [nI_add, pk_mul]; first | done | rfl)) (by omega) (by omega) (fun c21_4 => absurd c21_4 (by omega)) (fun c21_4 => ?_)
  refine AR.run g_X3_put_24_9 37 [some (.ref 4110), some (.int (nI (r))), some (.int (nI (c))), some (.int (x))] [.int (x), .int (((nI (r)) * (nI (5))) + (nI (c))), .ref 4111] _ [] rfl trivial ?_
  refine AR.ast (n := 0) (e := ((r * 5) + c)) (h1 := (hp o0 (ar (tu T 4 (upd (T 4) ((r * 5) + c) x)) K os sc) t0 p0 m0 u0 l0)) ok_X3_put_37 (by first | rfl | (simp only [nI_add, pk_mul]; first | done | rfl)) rfl rfl (by omega) (by decide) rfl ?_
  exact AR.retV dc_X3_put_38 rfl rfl
set_option maxRecDepth 100000 in
set_option maxHeartbeats 4000000 in
theorem s_3addT4 {E : AE} (d : Nat) (r : Nat) (c : Nat) (x : Int32)  {o0 t0 p0 m0 u0 l0 : List AC} {T K : Nat → Nat → Int32} {os sc : Int32} (hr : r < 60) (hc : c < 5) : CT E M_X3_add d [.ref 4110, .int (nI (r)), .int (nI (c)), .int (x)] (hp o0 (ar T K os sc) t0 p0 m0 u0 l0) (.inl none) (hp o0 (ar ((tu T 4 (upd (T 4) ((r * 5) + c) (((T 4) ((r * 5) + c)) + x)))) K os sc) t0 p0 m0 u0 l0) 0 0 := by
  refine CT.of (L := [some (.ref 4110), some (.int (nI (r))), some (.int (nI (c))), some (.int (x))]) rfl rfl ?_
  refine AR.run g_X3_add_0_1 1 [some (.ref 4110), some (.int (nI (r))), some (.int (nI (c))), some (.int (x))] [.int (nI (r))] _ [] rfl trivial ?_
  refine AR.ltN (tgt := 41) (a := r) dc_X3_add_1 (by decide) (by first | rfl | (simp only [nI_add, pk_mul]; first | done | rfl)) (by omega) (fun c1_1 => absurd c1_1 (fun q => q)) (fun c1_1 => ?_)
  refine AR.run g_X3_add_4_3 9 [some (.ref 4110), some (.int (nI (r))), some (.int (nI (c))), some (.int (x))] [.int (nI (60)), .int (nI (r))] _ [] rfl trivial ?_
  refine AR.ge2N (tgt := 41) (a := r) (b := 60) dc_X3_add_9 (by decide) (by first | rfl | (simp only [nI_add, pk_mul]; first | done | rfl)) (by first | rfl | (simp only [nI_add, pk_mul]; first | done | rfl)) (by omega) (by omega) (fun c9_2 => absurd c9_2 (by omega)) (fun c9_2 => ?_)
  refine AR.run g_X3_add_12_1 13 [some (.ref 4110), some (.int (nI (r))), some (.int (nI (c))), some (.int (x))] [.int (nI (c))] _ [] rfl trivial ?_
  refine AR.ltN (tgt := 41) (a := c) dc_X3_add_13 (by decide) (by first | rfl | (simp only [nI_add, pk_mul]; first | done | rfl)) (by omega) (fun c13_3 => absurd c13_3 (fun q => q)) (fun c13_3 => ?_)
  refine AR.run g_X3_add_16_3 21 [some (.ref 4110), some (.int (nI (r))), some (.int (nI (c))), some (.int (x))] [.int (nI (5)), .int (nI (c))] _ [] rfl trivial ?_
  refine AR.ge2N (tgt := 41) (a := c) (b := 5) dc_X3_add_21 (by decide) (by first | rfl | (simp only [nI_add, pk_mul]; first | done | rfl)) (by first | rfl | (simp only [nI_add, pk_mul]; first | done | rfl)) (by omega) (by omega) (fun c21_4 => absurd c21_4 (by omega)) (fun c21_4 => ?_)
  refine AR.run g_X3_add_24_9 37 [some (.ref 4110), some (.int (nI (r))), some (.int (nI (c))), some (.int (x))] [.int (((nI (r)) * (nI (5))) + (nI (c))), .ref 4111, .int (((nI (r)) * (nI (5))) + (nI (c))), .ref 4111] _ [] rfl trivial ?_
  refine AR.ald (n := 0) (e := ((r * 5) + c)) ok_X3_add_37 (by first | rfl | (simp only [nI_add, pk_mul]; first | done | rfl)) rfl (by omega) (by first | decide | omega) ?_
  refine AR.run g_X3_add_38_2 40 [some (.ref 4110), some (.int (nI (r))), some (.int (nI (c))), some (.int (x))] [.int (((T 4) ((r * 5) + c)) + x), .int (((nI (r)) * (nI (5))) + (nI (c))), .ref 4111] _ [] rfl trivial ?_
  refine AR.ast (n := 0) (e := ((r * 5) + c)) (h1 := (hp o0 (ar (tu T 4 (upd (T 4) ((r * 5) + c) (((T 4) ((r * 5) + c)) + x))) K os sc) t0 p0 m0 u0 l0)) ok_X3_add_40 (by first | rfl | (simp only [nI_add, pk_mul]; first | done | rfl)) rfl rfl (by omega) (by decide) rfl ?_
  exact AR.retV dc_X3_add_41 rfl rfl
set_option maxRecDepth 100000 in
set_option maxHeartbeats 4000000 in
theorem s_3atT5 {E : AE} (d : Nat) (c : Nat)  {o0 t0 p0 m0 u0 l0 : List AC} {T K : Nat → Nat → Int32} {os sc : Int32} (hc : c < 11) : CT E M_X3_at d [.ref 4113, .int (nI (0)), .int (nI (c))] (hp o0 (ar T K os sc) t0 p0 m0 u0 l0) (.inl (some (.int ((T 5) c)))) (hp o0 (ar T K os sc) t0 p0 m0 u0 l0) 0 0 := by
  refine CT.of (L := [some (.ref 4113), some (.int (nI (0))), some (.int (nI (c)))]) rfl rfl ?_
  refine AR.run g_X3_at_0_1 1 [some (.ref 4113), some (.int (nI (0))), some (.int (nI (c)))] [.int (nI (0))] _ [] rfl trivial ?_
  refine AR.ltN (tgt := 24) (a := 0) dc_X3_at_1 (by decide) (by first | rfl | (simp only [nI_add, pk_mul]; first | done | rfl)) (by omega) (fun c1_1 => absurd c1_1 (fun q => q)) (fun c1_1 => ?_)
  refine AR.run g_X3_at_4_3 9 [some (.ref 4113), some (.int (nI (0))), some (.int (nI (c)))] [.int (nI (1)), .int (nI (0))] _ [] rfl trivial ?_
  refine AR.ge2N (tgt := 24) (a := 0) (b := 1) dc_X3_at_9 (by decide) (by first | rfl | (simp only [nI_add, pk_mul]; first | done | rfl)) (by first | rfl | (simp only [nI_add, pk_mul]; first | done | rfl)) (by omega) (by omega) (fun c9_2 => absurd c9_2 (by omega)) (fun c9_2 => ?_)
  refine AR.run g_X3_at_12_1 13 [some (.ref 4113), some (.int (nI (0))), some (.int (nI (c)))] [.int (nI (c))] _ [] rfl trivial ?_
  refine AR.ltN (tgt := 24) (a := c) dc_X3_at_13 (by decide) (by first | rfl | (simp only [nI_add, pk_mul]; first | done | rfl)) (by omega) (fun c13_3 => absurd c13_3 (fun q => q)) (fun c13_3 => ?_)
  refine AR.run g_X3_at_16_3 21 [some (.ref 4113), some (.int (nI (0))), some (.int (nI (c)))] [.int (nI (11)), .int (nI (c))] _ [] rfl trivial ?_
  refine AR.lt2N (tgt := 26) (a := c) (b := 11) dc_X3_at_21 (by decide) (by first | rfl | (simp only [nI_add, pk_mul]; first | done | rfl)) (by first | rfl | (simp only [nI_add, pk_mul]; first | done | rfl)) (by omega) (by omega) (fun c21_4 => ?_) (fun c21_4 => absurd c21_4 (by omega))
  refine AR.run g_X3_at_26_8 38 [some (.ref 4113), some (.int (nI (0))), some (.int (nI (c)))] [.int (((nI (0)) * (nI (11))) + (nI (c))), .ref 4114] _ [] rfl trivial ?_
  refine AR.cast (L' := [some (.ref 4113), some (.int (nI (0))), some (.int (nI (c)))]) (st' := [.int (nI (c)), .ref 4114]) rfl (by simp only [pk_mul, nI_add, Nat.zero_mul, Nat.zero_add]) rfl ?_
  refine AR.ald (n := 0) (e := c) ok_X3_at_38 (by first | rfl | (simp only [nI_add, pk_mul]; first | done | rfl)) rfl (by omega) (by first | decide | omega) ?_
  exact AR.retI dc_X3_at_39 rfl rfl rfl
set_option maxRecDepth 100000 in
set_option maxHeartbeats 4000000 in
theorem s_3putT5 {E : AE} (d : Nat) (c : Nat) (x : Int32)  {o0 t0 p0 m0 u0 l0 : List AC} {T K : Nat → Nat → Int32} {os sc : Int32} (hc : c < 11) : CT E M_X3_put d [.ref 4113, .int (nI (0)), .int (nI (c)), .int (x)] (hp o0 (ar T K os sc) t0 p0 m0 u0 l0) (.inl none) (hp o0 (ar ((tu T 5 (upd (T 5) c x))) K os sc) t0 p0 m0 u0 l0) 0 0 := by
  refine CT.of (L := [some (.ref 4113), some (.int (nI (0))), some (.int (nI (c))), some (.int (x))]) rfl rfl ?_
  refine AR.run g_X3_put_0_1 1 [some (.ref 4113), some (.int (nI (0))), some (.int (nI (c))), some (.int (x))] [.int (nI (0))] _ [] rfl trivial ?_
  refine AR.ltN (tgt := 38) (a := 0) dc_X3_put_1 (by decide) (by first | rfl | (simp only [nI_add, pk_mul]; first | done | rfl)) (by omega) (fun c1_1 => absurd c1_1 (fun q => q)) (fun c1_1 => ?_)
  refine AR.run g_X3_put_4_3 9 [some (.ref 4113), some (.int (nI (0))), some (.int (nI (c))), some (.int (x))] [.int (nI (1)), .int (nI (0))] _ [] rfl trivial ?_
  refine AR.ge2N (tgt := 38) (a := 0) (b := 1) dc_X3_put_9 (by decide) (by first | rfl | (simp only [nI_add, pk_mul]; first | done | rfl)) (by first | rfl | (simp only [nI_add, pk_mul]; first | done | rfl)) (by omega) (by omega) (fun c9_2 => absurd c9_2 (by omega)) (fun c9_2 => ?_)
  refine AR.run g_X3_put_12_1 13 [some (.ref 4113), some (.int (nI (0))), some (.int (nI (c))), some (.int (x))] [.int (nI (c))] _ [] rfl trivial ?_
  refine AR.ltN (tgt := 38) (a := c) dc_X3_put_13 (by decide) (by first | rfl | (simp only [nI_add, pk_mul]; first | done | rfl)) (by omega) (fun c13_3 => absurd c13_3 (fun q => q)) (fun c13_3 => ?_)
  refine AR.run g_X3_put_16_3 21 [some (.ref 4113), some (.int (nI (0))), some (.int (nI (c))), some (.int (x))] [.int (nI (11)), .int (nI (c))] _ [] rfl trivial ?_
  refine AR.ge2N (tgt := 38) (a := c) (b := 11) dc_X3_put_21 (by decide) (by first | rfl | (simp only [nI_add, pk_mul]; first | done | rfl)) (by first | rfl | (simp only [nI_add, pk_mul]; first | done | rfl)) (by omega) (by omega) (fun c21_4 => absurd c21_4 (by omega)) (fun c21_4 => ?_)
  refine AR.run g_X3_put_24_9 37 [some (.ref 4113), some (.int (nI (0))), some (.int (nI (c))), some (.int (x))] [.int (x), .int (((nI (0)) * (nI (11))) + (nI (c))), .ref 4114] _ [] rfl trivial ?_
  refine AR.cast (st' := [.int (x), .int (nI (c)), .ref 4114]) rfl (by simp only [pk_mul, nI_add, Nat.zero_mul, Nat.zero_add]) rfl ?_
  refine AR.ast (n := 0) (e := c) (h1 := (hp o0 (ar (tu T 5 (upd (T 5) c x)) K os sc) t0 p0 m0 u0 l0)) ok_X3_put_37 (by first | rfl | (simp only [nI_add, pk_mul]; first | done | rfl)) rfl rfl (by omega) (by decide) rfl ?_
  exact AR.retV dc_X3_put_38 rfl rfl
theorem g_X3_add_24_8 : ab_oks M_X3_add [(24, .aload_n 0, 1, 0, 0, 0, .null), (25, .getfield 22, 3, 3, 2, 73, .null), (28, .iload_n 1, 1, 1, 0, 0, .null), (29, .aload_n 0, 1, 0, 0, 0, .null), (30, .getfield 19, 3, 3, 1, 72, .null), (33, .imul, 1, 0, 0, 0, .null), (34, .iload_n 2, 1, 2, 0, 0, .null), (35, .iadd, 1, 0, 0, 0, .null)] = true := by decide +kernel
theorem g_X3_add_36_1 : ab_oks M_X3_add [(36, .dup2, 1, 0, 0, 0, .null)] = true := by decide +kernel
set_option maxRecDepth 100000 in
set_option maxHeartbeats 4000000 in
theorem s_3addT5 {E : AE} (d : Nat) (c : Nat) (x : Int32)  {o0 t0 p0 m0 u0 l0 : List AC} {T K : Nat → Nat → Int32} {os sc : Int32} (hc : c < 11) : CT E M_X3_add d [.ref 4113, .int (nI (0)), .int (nI (c)), .int (x)] (hp o0 (ar T K os sc) t0 p0 m0 u0 l0) (.inl none) (hp o0 (ar ((tu T 5 (upd (T 5) c (((T 5) c) + x)))) K os sc) t0 p0 m0 u0 l0) 0 0 := by
  refine CT.of (L := [some (.ref 4113), some (.int (nI (0))), some (.int (nI (c))), some (.int (x))]) rfl rfl ?_
  refine AR.run g_X3_add_0_1 1 [some (.ref 4113), some (.int (nI (0))), some (.int (nI (c))), some (.int (x))] [.int (nI (0))] _ [] rfl trivial ?_
  refine AR.ltN (tgt := 41) (a := 0) dc_X3_add_1 (by decide) (by first | rfl | (simp only [nI_add, pk_mul]; first | done | rfl)) (by omega) (fun c1_1 => absurd c1_1 (fun q => q)) (fun c1_1 => ?_)
  refine AR.run g_X3_add_4_3 9 [some (.ref 4113), some (.int (nI (0))), some (.int (nI (c))), some (.int (x))] [.int (nI (1)), .int (nI (0))] _ [] rfl trivial ?_
  refine AR.ge2N (tgt := 41) (a := 0) (b := 1) dc_X3_add_9 (by decide) (by first | rfl | (simp only [nI_add, pk_mul]; first | done | rfl)) (by first | rfl | (simp only [nI_add, pk_mul]; first | done | rfl)) (by omega) (by omega) (fun c9_2 => absurd c9_2 (by omega)) (fun c9_2 => ?_)
  refine AR.run g_X3_add_12_1 13 [some (.ref 4113), some (.int (nI (0))), some (.int (nI (c))), some (.int (x))] [.int (nI (c))] _ [] rfl trivial ?_
  refine AR.ltN (tgt := 41) (a := c) dc_X3_add_13 (by decide) (by first | rfl | (simp only [nI_add, pk_mul]; first | done | rfl)) (by omega) (fun c13_3 => absurd c13_3 (fun q => q)) (fun c13_3 => ?_)
  refine AR.run g_X3_add_16_3 21 [some (.ref 4113), some (.int (nI (0))), some (.int (nI (c))), some (.int (x))] [.int (nI (11)), .int (nI (c))] _ [] rfl trivial ?_
  refine AR.ge2N (tgt := 41) (a := c) (b := 11) dc_X3_add_21 (by decide) (by first | rfl | (simp only [nI_add, pk_mul]; first | done | rfl)) (by first | rfl | (simp only [nI_add, pk_mul]; first | done | rfl)) (by omega) (by omega) (fun c21_4 => absurd c21_4 (by omega)) (fun c21_4 => ?_)
  refine AR.run g_X3_add_24_8 36 [some (.ref 4113), some (.int (nI (0))), some (.int (nI (c))), some (.int (x))] [.int (((nI (0)) * (nI (11))) + (nI (c))), .ref 4114] _ [] rfl trivial ?_
  refine AR.cast (L' := [some (.ref 4113), some (.int (nI (0))), some (.int (nI (c))), some (.int (x))]) (st' := [.int (nI (c)), .ref 4114]) rfl (by simp only [pk_mul, nI_add, Nat.zero_mul, Nat.zero_add]) rfl ?_
  refine AR.run g_X3_add_36_1 37 [some (.ref 4113), some (.int (nI (0))), some (.int (nI (c))), some (.int (x))] [.int (nI (c)), .ref 4114, .int (nI (c)), .ref 4114] _ [] rfl trivial ?_
  refine AR.ald (n := 0) (e := c) ok_X3_add_37 (by first | rfl | (simp only [nI_add, pk_mul]; first | done | rfl)) rfl (by omega) (by first | decide | omega) ?_
  refine AR.run g_X3_add_38_2 40 [some (.ref 4113), some (.int (nI (0))), some (.int (nI (c))), some (.int (x))] [.int (((T 5) c) + x), .int (nI (c)), .ref 4114] _ [] rfl trivial ?_
  refine AR.ast (n := 0) (e := c) (h1 := (hp o0 (ar (tu T 5 (upd (T 5) c (((T 5) c) + x))) K os sc) t0 p0 m0 u0 l0)) ok_X3_add_40 (by first | rfl | (simp only [nI_add, pk_mul]; first | done | rfl)) rfl rfl (by omega) (by decide) rfl ?_
  exact AR.retV dc_X3_add_41 rfl rfl
set_option maxRecDepth 100000 in
set_option maxHeartbeats 4000000 in
theorem s_3atP {E : AE} (d : Nat) (r : Nat) (c : Nat)  {o0 a0 p0 m0 u0 l0 : List AC} {tc tp : Nat → Int32} {tl_ tn trd tv tdg tf tla : Int32} (hr : r < 10) (hc : c < 3) : CT E M_X3_at d [.ref 8194, .int (nI (r)), .int (nI (c))] (hp o0 a0 (te_ tc tp tl_ tn trd tv tdg tf tla) p0 m0 u0 l0) (.inl (some (.int (tp ((r * 3) + c))))) (hp o0 a0 (te_ tc tp tl_ tn trd tv tdg tf tla) p0 m0 u0 l0) 0 0 := by
  refine CT.of (L := [some (.ref 8194), some (.int (nI (r))), some (.int (nI (c)))]) rfl rfl ?_
  refine AR.run g_X3_at_0_1 1 [some (.ref 8194), some (.int (nI (r))), some (.int (nI (c)))] [.int (nI (r))] _ [] rfl trivial ?_
  refine AR.ltN (tgt := 24) (a := r) dc_X3_at_1 (by decide) (by first | rfl | (simp only [nI_add, pk_mul]; first | done | rfl)) (by omega) (fun c1_1 => absurd c1_1 (fun q => q)) (fun c1_1 => ?_)
  refine AR.run g_X3_at_4_3 9 [some (.ref 8194), some (.int (nI (r))), some (.int (nI (c)))] [.int (nI (10)), .int (nI (r))] _ [] rfl trivial ?_
  refine AR.ge2N (tgt := 24) (a := r) (b := 10) dc_X3_at_9 (by decide) (by first | rfl | (simp only [nI_add, pk_mul]; first | done | rfl)) (by first | rfl | (simp only [nI_add, pk_mul]; first | done | rfl)) (by omega) (by omega) (fun c9_2 => absurd c9_2 (by omega)) (fun c9_2 => ?_)
  refine AR.run g_X3_at_12_1 13 [some (.ref 8194), some (.int (nI (r))), some (.int (nI (c)))] [.int (nI (c))] _ [] rfl trivial ?_
  refine AR.ltN (tgt := 24) (a := c) dc_X3_at_13 (by decide) (by first | rfl | (simp only [nI_add, pk_mul]; first | done | rfl)) (by omega) (fun c13_3 => absurd c13_3 (fun q => q)) (fun c13_3 => ?_)
  refine AR.run g_X3_at_16_3 21 [some (.ref 8194), some (.int (nI (r))), some (.int (nI (c)))] [.int (nI (3)), .int (nI (c))] _ [] rfl trivial ?_
  refine AR.lt2N (tgt := 26) (a := c) (b := 3) dc_X3_at_21 (by decide) (by first | rfl | (simp only [nI_add, pk_mul]; first | done | rfl)) (by first | rfl | (simp only [nI_add, pk_mul]; first | done | rfl)) (by omega) (by omega) (fun c21_4 => ?_) (fun c21_4 => absurd c21_4 (by omega))
  refine AR.run g_X3_at_26_8 38 [some (.ref 8194), some (.int (nI (r))), some (.int (nI (c)))] [.int (((nI (r)) * (nI (3))) + (nI (c))), .ref 8195] _ [] rfl trivial ?_
  refine AR.ald (n := 0) (e := ((r * 3) + c)) ok_X3_at_38 (by first | rfl | (simp only [nI_add, pk_mul]; first | done | rfl)) rfl (by omega) (by first | decide | omega) ?_
  exact AR.retI dc_X3_at_39 rfl rfl rfl
set_option maxRecDepth 100000 in
set_option maxHeartbeats 4000000 in
theorem s_3putP {E : AE} (d : Nat) (r : Nat) (c : Nat) (x : Int32)  {o0 a0 p0 m0 u0 l0 : List AC} {tc tp : Nat → Int32} {tl_ tn trd tv tdg tf tla : Int32} (hr : r < 10) (hc : c < 3) : CT E M_X3_put d [.ref 8194, .int (nI (r)), .int (nI (c)), .int (x)] (hp o0 a0 (te_ tc tp tl_ tn trd tv tdg tf tla) p0 m0 u0 l0) (.inl none) (hp o0 a0 (te_ tc ((upd tp ((r * 3) + c) x)) tl_ tn trd tv tdg tf tla) p0 m0 u0 l0) 0 0 := by
  refine CT.of (L := [some (.ref 8194), some (.int (nI (r))), some (.int (nI (c))), some (.int (x))]) rfl rfl ?_
  refine AR.run g_X3_put_0_1 1 [some (.ref 8194), some (.int (nI (r))), some (.int (nI (c))), some (.int (x))] [.int (nI (r))] _ [] rfl trivial ?_
  refine AR.ltN (tgt := 38) (a := r) dc_X3_put_1 (by decide) (by first | rfl | (simp only [nI_add, pk_mul]; first | done | rfl)) (by omega) (fun c1_1 => absurd c1_1 (fun q => q)) (fun c1_1 => ?_)
  refine AR.run g_X3_put_4_3 9 [some (.ref 8194), some (.int (nI (r))), some (.int (nI (c))), some (.int (x))] [.int (nI (10)), .int (nI (r))] _ [] rfl trivial ?_
  refine AR.ge2N (tgt := 38) (a := r) (b := 10) dc_X3_put_9 (by decide) (by first | rfl | (simp only [nI_add, pk_mul]; first | done | rfl)) (by first | rfl | (simp only [nI_add, pk_mul]; first | done | rfl)) (by omega) (by omega) (fun c9_2 => absurd c9_2 (by omega)) (fun c9_2 => ?_)
  refine AR.run g_X3_put_12_1 13 [some (.ref 8194), some (.int (nI (r))), some (.int (nI (c))), some (.int (x))] [.int (nI (c))] _ [] rfl trivial ?_
  refine AR.ltN (tgt := 38) (a := c) dc_X3_put_13 (by decide) (by first | rfl | (simp only [nI_add, pk_mul]; first | done | rfl)) (by omega) (fun c13_3 => absurd c13_3 (fun q => q)) (fun c13_3 => ?_)
  refine AR.run g_X3_put_16_3 21 [some (.ref 8194), some (.int (nI (r))), some (.int (nI (c))), some (.int (x))] [.int (nI (3)), .int (nI (c))] _ [] rfl trivial ?_
  refine AR.ge2N (tgt := 38) (a := c) (b := 3) dc_X3_put_21 (by decide) (by first | rfl | (simp only [nI_add, pk_mul]; first | done | rfl)) (by first | rfl | (simp only [nI_add, pk_mul]; first | done | rfl)) (by omega) (by omega) (fun c21_4 => absurd c21_4 (by omega)) (fun c21_4 => ?_)
  refine AR.run g_X3_put_24_9 37 [some (.ref 8194), some (.int (nI (r))), some (.int (nI (c))), some (.int (x))] [.int (x), .int (((nI (r)) * (nI (3))) + (nI (c))), .ref 8195] _ [] rfl trivial ?_
  refine AR.ast (n := 0) (e := ((r * 3) + c)) (h1 := (hp o0 a0 (te_ tc (upd tp ((r * 3) + c) x) tl_ tn trd tv tdg tf tla) p0 m0 u0 l0)) ok_X3_put_37 (by first | rfl | (simp only [nI_add, pk_mul]; first | done | rfl)) rfl rfl (by omega) (by decide) rfl ?_
  exact AR.retV dc_X3_put_38 rfl rfl
set_option maxRecDepth 100000 in
set_option maxHeartbeats 4000000 in
theorem s_3atG0 {E : AE} (d : Nat) (r : Nat) (c : Nat)  {o0 a0 t0 m0 u0 l0 : List AC} {pg ph pc : Nat → Int32} {pm : Int32} (hr : r < 4) (hc : c < 12) : CT E M_X3_at d [.ref 12289, .int (nI (r)), .int (nI (c))] (hp o0 a0 t0 (pl pg ph pc pm) m0 u0 l0) (.inl (some (.int (pg ((r * 12) + c))))) (hp o0 a0 t0 (pl pg ph pc pm) m0 u0 l0) 0 0 := by
  refine CT.of (L := [some (.ref 12289), some (.int (nI (r))), some (.int (nI (c)))]) rfl rfl ?_
  refine AR.run g_X3_at_0_1 1 [some (.ref 12289), some (.int (nI (r))), some (.int (nI (c)))] [.int (nI (r))] _ [] rfl trivial ?_
  refine AR.ltN (tgt := 24) (a := r) dc_X3_at_1 (by decide) (by first | rfl | (simp only [nI_add, pk_mul]; first | done | rfl)) (by omega) (fun c1_1 => absurd c1_1 (fun q => q)) (fun c1_1 => ?_)
  refine AR.run g_X3_at_4_3 9 [some (.ref 12289), some (.int (nI (r))), some (.int (nI (c)))] [.int (nI (4)), .int (nI (r))] _ [] rfl trivial ?_
  refine AR.ge2N (tgt := 24) (a := r) (b := 4) dc_X3_at_9 (by decide) (by first | rfl | (simp only [nI_add, pk_mul]; first | done | rfl)) (by first | rfl | (simp only [nI_add, pk_mul]; first | done | rfl)) (by omega) (by omega) (fun c9_2 => absurd c9_2 (by omega)) (fun c9_2 => ?_)
  refine AR.run g_X3_at_12_1 13 [some (.ref 12289), some (.int (nI (r))), some (.int (nI (c)))] [.int (nI (c))] _ [] rfl trivial ?_
  refine AR.ltN (tgt := 24) (a := c) dc_X3_at_13 (by decide) (by first | rfl | (simp only [nI_add, pk_mul]; first | done | rfl)) (by omega) (fun c13_3 => absurd c13_3 (fun q => q)) (fun c13_3 => ?_)
  refine AR.run g_X3_at_16_3 21 [some (.ref 12289), some (.int (nI (r))), some (.int (nI (c)))] [.int (nI (12)), .int (nI (c))] _ [] rfl trivial ?_
  refine AR.lt2N (tgt := 26) (a := c) (b := 12) dc_X3_at_21 (by decide) (by first | rfl | (simp only [nI_add, pk_mul]; first | done | rfl)) (by first | rfl | (simp only [nI_add, pk_mul]; first | done | rfl)) (by omega) (by omega) (fun c21_4 => ?_) (fun c21_4 => absurd c21_4 (by omega))
  refine AR.run g_X3_at_26_8 38 [some (.ref 12289), some (.int (nI (r))), some (.int (nI (c)))] [.int (((nI (r)) * (nI (12))) + (nI (c))), .ref 12290] _ [] rfl trivial ?_
  refine AR.ald (n := 0) (e := ((r * 12) + c)) ok_X3_at_38 (by first | rfl | (simp only [nI_add, pk_mul]; first | done | rfl)) rfl (by omega) (by first | decide | omega) ?_
  exact AR.retI dc_X3_at_39 rfl rfl rfl
set_option maxRecDepth 100000 in
set_option maxHeartbeats 4000000 in
theorem s_3putG0 {E : AE} (d : Nat) (r : Nat) (c : Nat) (x : Int32)  {o0 a0 t0 m0 u0 l0 : List AC} {pg ph pc : Nat → Int32} {pm : Int32} (hr : r < 4) (hc : c < 12) : CT E M_X3_put d [.ref 12289, .int (nI (r)), .int (nI (c)), .int (x)] (hp o0 a0 t0 (pl pg ph pc pm) m0 u0 l0) (.inl none) (hp o0 a0 t0 (pl ((upd pg ((r * 12) + c) x)) ph pc pm) m0 u0 l0) 0 0 := by
  refine CT.of (L := [some (.ref 12289), some (.int (nI (r))), some (.int (nI (c))), some (.int (x))]) rfl rfl ?_
  refine AR.run g_X3_put_0_1 1 [some (.ref 12289), some (.int (nI (r))), some (.int (nI (c))), some (.int (x))] [.int (nI (r))] _ [] rfl trivial ?_
  refine AR.ltN (tgt := 38) (a := r) dc_X3_put_1 (by decide) (by first | rfl | (simp only [nI_add, pk_mul]; first | done | rfl)) (by omega) (fun c1_1 => absurd c1_1 (fun q => q)) (fun c1_1 => ?_)
  refine AR.run g_X3_put_4_3 9 [some (.ref 12289), some (.int (nI (r))), some (.int (nI (c))), some (.int (x))] [.int (nI (4)), .int (nI (r))] _ [] rfl trivial ?_
  refine AR.ge2N (tgt := 38) (a := r) (b := 4) dc_X3_put_9 (by decide) (by first | rfl | (simp only [nI_add, pk_mul]; first | done | rfl)) (by first | rfl | (simp only [nI_add, pk_mul]; first | done | rfl)) (by omega) (by omega) (fun c9_2 => absurd c9_2 (by omega)) (fun c9_2 => ?_)
  refine AR.run g_X3_put_12_1 13 [some (.ref 12289), some (.int (nI (r))), some (.int (nI (c))), some (.int (x))] [.int (nI (c))] _ [] rfl trivial ?_
  refine AR.ltN (tgt := 38) (a := c) dc_X3_put_13 (by decide) (by first | rfl | (simp only [nI_add, pk_mul]; first | done | rfl)) (by omega) (fun c13_3 => absurd c13_3 (fun q => q)) (fun c13_3 => ?_)
  refine AR.run g_X3_put_16_3 21 [some (.ref 12289), some (.int (nI (r))), some (.int (nI (c))), some (.int (x))] [.int (nI (12)), .int (nI (c))] _ [] rfl trivial ?_
  refine AR.ge2N (tgt := 38) (a := c) (b := 12) dc_X3_put_21 (by decide) (by first | rfl | (simp only [nI_add, pk_mul]; first | done | rfl)) (by first | rfl | (simp only [nI_add, pk_mul]; first | done | rfl)) (by omega) (by omega) (fun c21_4 => absurd c21_4 (by omega)) (fun c21_4 => ?_)
  refine AR.run g_X3_put_24_9 37 [some (.ref 12289), some (.int (nI (r))), some (.int (nI (c))), some (.int (x))] [.int (x), .int (((nI (r)) * (nI (12))) + (nI (c))), .ref 12290] _ [] rfl trivial ?_
  refine AR.ast (n := 0) (e := ((r * 12) + c)) (h1 := (hp o0 a0 t0 (pl (upd pg ((r * 12) + c) x) ph pc pm) m0 u0 l0)) ok_X3_put_37 (by first | rfl | (simp only [nI_add, pk_mul]; first | done | rfl)) rfl rfl (by omega) (by decide) rfl ?_
  exact AR.retV dc_X3_put_38 rfl rfl
set_option maxRecDepth 100000 in
set_option maxHeartbeats 4000000 in
theorem s_3atG1 {E : AE} (d : Nat) (c : Nat)  {o0 a0 t0 m0 u0 l0 : List AC} {pg ph pc : Nat → Int32} {pm : Int32} (hc : c < 5) : CT E M_X3_at d [.ref 12292, .int (nI (0)), .int (nI (c))] (hp o0 a0 t0 (pl pg ph pc pm) m0 u0 l0) (.inl (some (.int (ph c)))) (hp o0 a0 t0 (pl pg ph pc pm) m0 u0 l0) 0 0 := by
  refine CT.of (L := [some (.ref 12292), some (.int (nI (0))), some (.int (nI (c)))]) rfl rfl ?_
  refine AR.run g_X3_at_0_1 1 [some (.ref 12292), some (.int (nI (0))), some (.int (nI (c)))] [.int (nI (0))] _ [] rfl trivial ?_
  refine AR.ltN (tgt := 24) (a := 0) dc_X3_at_1 (by decide) (by first | rfl | (simp only [nI_add, pk_mul]; first | done | rfl)) (by omega) (fun c1_1 => absurd c1_1 (fun q => q)) (fun c1_1 => ?_)
  refine AR.run g_X3_at_4_3 9 [some (.ref 12292), some (.int (nI (0))), some (.int (nI (c)))] [.int (nI (1)), .int (nI (0))] _ [] rfl trivial ?_
  refine AR.ge2N (tgt := 24) (a := 0) (b := 1) dc_X3_at_9 (by decide) (by first | rfl | (simp only [nI_add, pk_mul]; first | done | rfl)) (by first | rfl | (simp only [nI_add, pk_mul]; first | done | rfl)) (by omega) (by omega) (fun c9_2 => absurd c9_2 (by omega)) (fun c9_2 => ?_)
  refine AR.run g_X3_at_12_1 13 [some (.ref 12292), some (.int (nI (0))), some (.int (nI (c)))] [.int (nI (c))] _ [] rfl trivial ?_
  refine AR.ltN (tgt := 24) (a := c) dc_X3_at_13 (by decide) (by first | rfl | (simp only [nI_add, pk_mul]; first | done | rfl)) (by omega) (fun c13_3 => absurd c13_3 (fun q => q)) (fun c13_3 => ?_)
  refine AR.run g_X3_at_16_3 21 [some (.ref 12292), some (.int (nI (0))), some (.int (nI (c)))] [.int (nI (5)), .int (nI (c))] _ [] rfl trivial ?_
  refine AR.lt2N (tgt := 26) (a := c) (b := 5) dc_X3_at_21 (by decide) (by first | rfl | (simp only [nI_add, pk_mul]; first | done | rfl)) (by first | rfl | (simp only [nI_add, pk_mul]; first | done | rfl)) (by omega) (by omega) (fun c21_4 => ?_) (fun c21_4 => absurd c21_4 (by omega))
  refine AR.run g_X3_at_26_8 38 [some (.ref 12292), some (.int (nI (0))), some (.int (nI (c)))] [.int (((nI (0)) * (nI (5))) + (nI (c))), .ref 12293] _ [] rfl trivial ?_
  refine AR.cast (L' := [some (.ref 12292), some (.int (nI (0))), some (.int (nI (c)))]) (st' := [.int (nI (c)), .ref 12293]) rfl (by simp only [pk_mul, nI_add, Nat.zero_mul, Nat.zero_add]) rfl ?_
  refine AR.ald (n := 0) (e := c) ok_X3_at_38 (by first | rfl | (simp only [nI_add, pk_mul]; first | done | rfl)) rfl (by omega) (by first | decide | omega) ?_
  exact AR.retI dc_X3_at_39 rfl rfl rfl
set_option maxRecDepth 100000 in
set_option maxHeartbeats 4000000 in
theorem s_3putG1 {E : AE} (d : Nat) (c : Nat) (x : Int32)  {o0 a0 t0 m0 u0 l0 : List AC} {pg ph pc : Nat → Int32} {pm : Int32} (hc : c < 5) : CT E M_X3_put d [.ref 12292, .int (nI (0)), .int (nI (c)), .int (x)] (hp o0 a0 t0 (pl pg ph pc pm) m0 u0 l0) (.inl none) (hp o0 a0 t0 (pl pg ((upd ph c x)) pc pm) m0 u0 l0) 0 0 := by
  refine CT.of (L := [some (.ref 12292), some (.int (nI (0))), some (.int (nI (c))), some (.int (x))]) rfl rfl ?_
  refine AR.run g_X3_put_0_1 1 [some (.ref 12292), some (.int (nI (0))), some (.int (nI (c))), some (.int (x))] [.int (nI (0))] _ [] rfl trivial ?_
  refine AR.ltN (tgt := 38) (a := 0) dc_X3_put_1 (by decide) (by first | rfl | (simp only [nI_add, pk_mul]; first | done | rfl)) (by omega) (fun c1_1 => absurd c1_1 (fun q => q)) (fun c1_1 => ?_)
  refine AR.run g_X3_put_4_3 9 [some (.ref 12292), some (.int (nI (0))), some (.int (nI (c))), some (.int (x))] [.int (nI (1)), .int (nI (0))] _ [] rfl trivial ?_
  refine AR.ge2N (tgt := 38) (a := 0) (b := 1) dc_X3_put_9 (by decide) (by first | rfl | (simp only [nI_add, pk_mul]; first | done | rfl)) (by first | rfl | (simp only [nI_add, pk_mul]; first | done | rfl)) (by omega) (by omega) (fun c9_2 => absurd c9_2 (by omega)) (fun c9_2 => ?_)
  refine AR.run g_X3_put_12_1 13 [some (.ref 12292), some (.int (nI (0))), some (.int (nI (c))), some (.int (x))] [.int (nI (c))] _ [] rfl trivial ?_
  refine AR.ltN (tgt := 38) (a := c) dc_X3_put_13 (by decide) (by first | rfl | (simp only [nI_add, pk_mul]; first | done | rfl)) (by omega) (fun c13_3 => absurd c13_3 (fun q => q)) (fun c13_3 => ?_)
  refine AR.run g_X3_put_16_3 21 [some (.ref 12292), some (.int (nI (0))), some (.int (nI (c))), some (.int (x))] [.int (nI (5)), .int (nI (c))] _ [] rfl trivial ?_
  refine AR.ge2N (tgt := 38) (a := c) (b := 5) dc_X3_put_21 (by decide) (by first | rfl | (simp only [nI_add, pk_mul]; first | done | rfl)) (by first | rfl | (simp only [nI_add, pk_mul]; first | done | rfl)) (by omega) (by omega) (fun c21_4 => absurd c21_4 (by omega)) (fun c21_4 => ?_)
  refine AR.run g_X3_put_24_9 37 [some (.ref 12292), some (.int (nI (0))), some (.int (nI (c))), some (.int (x))] [.int (x), .int (((nI (0)) * (nI (5))) + (nI (c))), .ref 12293] _ [] rfl trivial ?_
  refine AR.cast (st' := [.int (x), .int (nI (c)), .ref 12293]) rfl (by simp only [pk_mul, nI_add, Nat.zero_mul, Nat.zero_add]) rfl ?_
  refine AR.ast (n := 0) (e := c) (h1 := (hp o0 a0 t0 (pl pg (upd ph c x) pc pm) m0 u0 l0)) ok_X3_put_37 (by first | rfl | (simp only [nI_add, pk_mul]; first | done | rfl)) rfl rfl (by omega) (by decide) rfl ?_
  exact AR.retV dc_X3_put_38 rfl rfl
set_option maxRecDepth 100000 in
set_option maxHeartbeats 4000000 in
theorem s_3atG2 {E : AE} (d : Nat) (r : Nat) (c : Nat)  {o0 a0 t0 m0 u0 l0 : List AC} {pg ph pc : Nat → Int32} {pm : Int32} (hr : r < 2) (hc : c < 4) : CT E M_X3_at d [.ref 12295, .int (nI (r)), .int (nI (c))] (hp o0 a0 t0 (pl pg ph pc pm) m0 u0 l0) (.inl (some (.int (pc ((r * 4) + c))))) (hp o0 a0 t0 (pl pg ph pc pm) m0 u0 l0) 0 0 := by
  refine CT.of (L := [some (.ref 12295), some (.int (nI (r))), some (.int (nI (c)))]) rfl rfl ?_
  refine AR.run g_X3_at_0_1 1 [some (.ref 12295), some (.int (nI (r))), some (.int (nI (c)))] [.int (nI (r))] _ [] rfl trivial ?_
  refine AR.ltN (tgt := 24) (a := r) dc_X3_at_1 (by decide) (by first | rfl | (simp only [nI_add, pk_mul]; first | done | rfl)) (by omega) (fun c1_1 => absurd c1_1 (fun q => q)) (fun c1_1 => ?_)
  refine AR.run g_X3_at_4_3 9 [some (.ref 12295), some (.int (nI (r))), some (.int (nI (c)))] [.int (nI (2)), .int (nI (r))] _ [] rfl trivial ?_
  refine AR.ge2N (tgt := 24) (a := r) (b := 2) dc_X3_at_9 (by decide) (by first | rfl | (simp only [nI_add, pk_mul]; first | done | rfl)) (by first | rfl | (simp only [nI_add, pk_mul]; first | done | rfl)) (by omega) (by omega) (fun c9_2 => absurd c9_2 (by omega)) (fun c9_2 => ?_)
  refine AR.run g_X3_at_12_1 13 [some (.ref 12295), some (.int (nI (r))), some (.int (nI (c)))] [.int (nI (c))] _ [] rfl trivial ?_
  refine AR.ltN (tgt := 24) (a := c) dc_X3_at_13 (by decide) (by first | rfl | (simp only [nI_add, pk_mul]; first | done | rfl)) (by omega) (fun c13_3 => absurd c13_3 (fun q => q)) (fun c13_3 => ?_)
  refine AR.run g_X3_at_16_3 21 [some (.ref 12295), some (.int (nI (r))), some (.int (nI (c)))] [.int (nI (4)), .int (nI (c))] _ [] rfl trivial ?_
  refine AR.lt2N (tgt := 26) (a := c) (b := 4) dc_X3_at_21 (by decide) (by first | rfl | (simp only [nI_add, pk_mul]; first | done | rfl)) (by first | rfl | (simp only [nI_add, pk_mul]; first | done | rfl)) (by omega) (by omega) (fun c21_4 => ?_) (fun c21_4 => absurd c21_4 (by omega))
  refine AR.run g_X3_at_26_8 38 [some (.ref 12295), some (.int (nI (r))), some (.int (nI (c)))] [.int (((nI (r)) * (nI (4))) + (nI (c))), .ref 12296] _ [] rfl trivial ?_
  refine AR.ald (n := 0) (e := ((r * 4) + c)) ok_X3_at_38 (by first | rfl | (simp only [nI_add, pk_mul]; first | done | rfl)) rfl (by omega) (by first | decide | omega) ?_
  exact AR.retI dc_X3_at_39 rfl rfl rfl
set_option maxRecDepth 100000 in
set_option maxHeartbeats 4000000 in
theorem s_3putG2 {E : AE} (d : Nat) (r : Nat) (c : Nat) (x : Int32)  {o0 a0 t0 m0 u0 l0 : List AC} {pg ph pc : Nat → Int32} {pm : Int32} (hr : r < 2) (hc : c < 4) : CT E M_X3_put d [.ref 12295, .int (nI (r)), .int (nI (c)), .int (x)] (hp o0 a0 t0 (pl pg ph pc pm) m0 u0 l0) (.inl none) (hp o0 a0 t0 (pl pg ph ((upd pc ((r * 4) + c) x)) pm) m0 u0 l0) 0 0 := by
  refine CT.of (L := [some (.ref 12295), some (.int (nI (r))), some (.int (nI (c))), some (.int (x))]) rfl rfl ?_
  refine AR.run g_X3_put_0_1 1 [some (.ref 12295), some (.int (nI (r))), some (.int (nI (c))), some (.int (x))] [.int (nI (r))] _ [] rfl trivial ?_
  refine AR.ltN (tgt := 38) (a := r) dc_X3_put_1 (by decide) (by first | rfl | (simp only [nI_add, pk_mul]; first | done | rfl)) (by omega) (fun c1_1 => absurd c1_1 (fun q => q)) (fun c1_1 => ?_)
  refine AR.run g_X3_put_4_3 9 [some (.ref 12295), some (.int (nI (r))), some (.int (nI (c))), some (.int (x))] [.int (nI (2)), .int (nI (r))] _ [] rfl trivial ?_
  refine AR.ge2N (tgt := 38) (a := r) (b := 2) dc_X3_put_9 (by decide) (by first | rfl | (simp only [nI_add, pk_mul]; first | done | rfl)) (by first | rfl | (simp only [nI_add, pk_mul]; first | done | rfl)) (by omega) (by omega) (fun c9_2 => absurd c9_2 (by omega)) (fun c9_2 => ?_)
  refine AR.run g_X3_put_12_1 13 [some (.ref 12295), some (.int (nI (r))), some (.int (nI (c))), some (.int (x))] [.int (nI (c))] _ [] rfl trivial ?_
  refine AR.ltN (tgt := 38) (a := c) dc_X3_put_13 (by decide) (by first | rfl | (simp only [nI_add, pk_mul]; first | done | rfl)) (by omega) (fun c13_3 => absurd c13_3 (fun q => q)) (fun c13_3 => ?_)
  refine AR.run g_X3_put_16_3 21 [some (.ref 12295), some (.int (nI (r))), some (.int (nI (c))), some (.int (x))] [.int (nI (4)), .int (nI (c))] _ [] rfl trivial ?_
  refine AR.ge2N (tgt := 38) (a := c) (b := 4) dc_X3_put_21 (by decide) (by first | rfl | (simp only [nI_add, pk_mul]; first | done | rfl)) (by first | rfl | (simp only [nI_add, pk_mul]; first | done | rfl)) (by omega) (by omega) (fun c21_4 => absurd c21_4 (by omega)) (fun c21_4 => ?_)
  refine AR.run g_X3_put_24_9 37 [some (.ref 12295), some (.int (nI (r))), some (.int (nI (c))), some (.int (x))] [.int (x), .int (((nI (r)) * (nI (4))) + (nI (c))), .ref 12296] _ [] rfl trivial ?_
  refine AR.ast (n := 0) (e := ((r * 4) + c)) (h1 := (hp o0 a0 t0 (pl pg ph (upd pc ((r * 4) + c) x) pm) m0 u0 l0)) ok_X3_put_37 (by first | rfl | (simp only [nI_add, pk_mul]; first | done | rfl)) rfl rfl (by omega) (by decide) rfl ?_
  exact AR.retV dc_X3_put_38 rfl rfl
theorem g_X3_copyRow_0_1 : ab_oks M_X3_copyRow [(0, .iload_n 1, 1, 1, 0, 0, .null)] = true := by decide +kernel
theorem dc_X3_copyRow_1 : decode (AM.bytes M_X3_copyRow) 1 = .ok (.ifCond .lt 50, 3) := by decide +kernel
theorem g_X3_copyRow_4_3 : ab_oks M_X3_copyRow [(4, .iload_n 1, 1, 1, 0, 0, .null), (5, .aload_n 0, 1, 0, 0, 0, .null), (6, .getfield 15, 3, 3, 0, 71, .null)] = true := by decide +kernel
theorem dc_X3_copyRow_9 : decode (AM.bytes M_X3_copyRow) 9 = .ok (.if_icmp .ge 42, 3) := by decide +kernel
theorem g_X3_copyRow_12_1 : ab_oks M_X3_copyRow [(12, .iload_n 2, 1, 2, 0, 0, .null)] = true := by decide +kernel
theorem dc_X3_copyRow_13 : decode (AM.bytes M_X3_copyRow) 13 = .ok (.ifCond .lt 38, 3) := by decide +kernel
theorem g_X3_copyRow_16_3 : ab_oks M_X3_copyRow [(16, .iload_n 2, 1, 2, 0, 0, .null), (17, .aload_n 0, 1, 0, 0, 0, .null), (18, .getfield 15, 3, 3, 0, 71, .null)] = true := by decide +kernel
theorem dc_X3_copyRow_21 : decode (AM.bytes M_X3_copyRow) 21 = .ok (.if_icmp .ge 30, 3) := by decide +kernel
theorem g_X3_copyRow_24_14 : ab_oks M_X3_copyRow [(24, .aload_n 0, 1, 0, 0, 0, .null), (25, .getfield 22, 3, 3, 2, 73, .null), (28, .iload_n 1, 1, 1, 0, 0, .null), (29, .aload_n 0, 1, 0, 0, 0, .null), (30, .getfield 19, 3, 3, 1, 72, .null), (33, .imul, 1, 0, 0, 0, .null), (34, .aload_n 0, 1, 0, 0, 0, .null), (35, .getfield 22, 3, 3, 2, 73, .null), (38, .iload_n 2, 1, 2, 0, 0, .null), (39, .aload_n 0, 1, 0, 0, 0, .null), (40, .getfield 19, 3, 3, 1, 72, .null), (43, .imul, 1, 0, 0, 0, .null), (44, .aload_n 0, 1, 0, 0, 0, .null), (45, .getfield 19, 3, 3, 1, 72, .null)] = true := by decide +kernel
theorem g_X3_copyRow_48_1 : ab_oks M_X3_copyRow [(48, .invokestatic 37, 3, 4, 0, 456, .null)] = true := by decide +kernel
theorem dc_X3_copyRow_51 : decode (AM.bytes M_X3_copyRow) 51 = .ok (.return_, 1) := by decide +kernel
set_option maxRecDepth 100000 in
set_option maxHeartbeats 4000000 in
theorem s_3copyRowT0 {E : AE} (d : Nat) (r : Nat) (c : Nat)  {o0 t0 p0 m0 u0 l0 : List AC} {T K : Nat → Nat → Int32} {os sc : Int32} (hr : r < 13) (hc : c < 13) : CT E M_X3_copyRow d [.ref 4098, .int (nI (r)), .int (nI (c))] (hp o0 (ar T K os sc) t0 p0 m0 u0 l0) (.inl none) (hp o0 (ar ((tu T 0 (va_cpy (T 0) (T 0) (r * 7) (c * 7) 7))) K os sc) t0 p0 m0 u0 l0) 0 0 := by
  refine CT.of (L := [some (.ref 4098), some (.int (nI (r))), some (.int (nI (c)))]) rfl rfl ?_
  refine AR.run g_X3_copyRow_0_1 1 [some (.ref 4098), some (.int (nI (r))), some (.int (nI (c)))] [.int (nI (r))] _ [] rfl trivial ?_
  refine AR.ltN (tgt := 51) (a := r) dc_X3_copyRow_1 (by decide) (by first | rfl | (simp only [nI_add, pk_mul]; first | done | rfl)) (by omega) (fun c1_1 => absurd c1_1 (fun q => q)) (fun c1_1 => ?_)
  refine AR.run g_X3_copyRow_4_3 9 [some (.ref 4098), some (.int (nI (r))), some (.int (nI (c)))] [.int (nI (13)), .int (nI (r))] _ [] rfl trivial ?_
  refine AR.ge2N (tgt := 51) (a := r) (b := 13) dc_X3_copyRow_9 (by decide) (by first | rfl | (simp only [nI_add, pk_mul]; first | done | rfl)) (by first | rfl | (simp only [nI_add, pk_mul]; first | done | rfl)) (by omega) (by omega) (fun c9_2 => absurd c9_2 (by omega)) (fun c9_2 => ?_)
  refine AR.run g_X3_copyRow_12_1 13 [some (.ref 4098), some (.int (nI (r))), some (.int (nI (c)))] [.int (nI (c))] _ [] rfl trivial ?_
  refine AR.ltN (tgt := 51) (a := c) dc_X3_copyRow_13 (by decide) (by first | rfl | (simp only [nI_add, pk_mul]; first | done | rfl)) (by omega) (fun c13_3 => absurd c13_3 (fun q => q)) (fun c13_3 => ?_)
  refine AR.run g_X3_copyRow_16_3 21 [some (.ref 4098), some (.int (nI (r))), some (.int (nI (c)))] [.int (nI (13)), .int (nI (c))] _ [] rfl trivial ?_
  refine AR.ge2N (tgt := 51) (a := c) (b := 13) dc_X3_copyRow_21 (by decide) (by first | rfl | (simp only [nI_add, pk_mul]; first | done | rfl)) (by first | rfl | (simp only [nI_add, pk_mul]; first | done | rfl)) (by omega) (by omega) (fun c21_4 => absurd c21_4 (by omega)) (fun c21_4 => ?_)
  refine AR.run g_X3_copyRow_24_14 48 [some (.ref 4098), some (.int (nI (r))), some (.int (nI (c)))] [.int (nI (7)), .int ((nI (c)) * (nI (7))), .ref 4099, .int ((nI (r)) * (nI (7))), .ref 4099] _ [] rfl trivial ?_
  refine AR.cast (L' := [some (.ref 4098), some (.int (nI (r))), some (.int (nI (c)))]) (st' := [.int (nI (7)), .int (nI ((c * 7))), .ref 4099, .int (nI ((r * 7))), .ref 4099]) (by first | rfl | (simp only [nI_add, pk_mul]; first | done | rfl)) (by first | rfl | (simp only [nI_add, pk_mul]; first | done | rfl)) rfl ?_
  refine AR.run g_X3_copyRow_48_1 51 [some (.ref 4098), some (.int (nI (r))), some (.int (nI (c)))] [] (hp o0 (ar (tu T 0 (va_cpy (T 0) (T 0) (Int32.toNatClampNeg (nI ((r * 7)))) (Int32.toNatClampNeg (nI ((c * 7)))) (Int32.toNatClampNeg (nI (7))))) K os sc) t0 p0 m0 u0 l0) [¬ (nI ((r * 7))) < 0, ¬ (nI ((c * 7))) < 0, ¬ (nI (7)) < 0, (Int32.toNatClampNeg (nI ((r * 7)))) + (Int32.toNatClampNeg (nI (7))) ≤ 91, (Int32.toNatClampNeg (nI ((c * 7)))) + (Int32.toNatClampNeg (nI (7))) ≤ 91] rfl ⟨nI_pos (by omega), nI_pos (by omega), nI_pos (by omega), (by simp only [nI_clamp (show (r * 7) < 2147483648 by omega), nI_clamp (show 7 < 2147483648 by omega)]; omega), (by unfold ab_all; simp only [nI_clamp (show (c * 7) < 2147483648 by omega), nI_clamp (show 7 < 2147483648 by omega)]; omega)⟩ ?_
  refine AR.cast (h1 := (hp o0 (ar (tu T 0 (va_cpy (T 0) (T 0) (r * 7) (c * 7) 7)) K os sc) t0 p0 m0 u0 l0)) rfl rfl (by simp only [nI_clamp (show (r * 7) < 2147483648 by omega), nI_clamp (show (c * 7) < 2147483648 by omega), nI_clamp (show 7 < 2147483648 by omega)]) ?_
  exact AR.retV dc_X3_copyRow_51 rfl rfl
set_option maxRecDepth 100000 in
set_option maxHeartbeats 4000000 in
theorem s_3copyRowT1 {E : AE} (d : Nat) (r : Nat) (c : Nat)  {o0 t0 p0 m0 u0 l0 : List AC} {T K : Nat → Nat → Int32} {os sc : Int32} (hr : r < 13) (hc : c < 13) : CT E M_X3_copyRow d [.ref 4101, .int (nI (r)), .int (nI (c))] (hp o0 (ar T K os sc) t0 p0 m0 u0 l0) (.inl none) (hp o0 (ar ((tu T 1 (va_cpy (T 1) (T 1) (r * 120) (c * 120) 120))) K os sc) t0 p0 m0 u0 l0) 0 0 := by
  refine CT.of (L := [some (.ref 4101), some (.int (nI (r))), some (.int (nI (c)))]) rfl rfl ?_
  refine AR.run g_X3_copyRow_0_1 1 [some (.ref 4101), some (.int (nI (r))), some (.int (nI (c)))] [.int (nI (r))] _ [] rfl trivial ?_
  refine AR.ltN (tgt := 51) (a := r) dc_X3_copyRow_1 (by decide) (by first | rfl | (simp only [nI_add, pk_mul]; first | done | rfl)) (by omega) (fun c1_1 => absurd c1_1 (fun q => q)) (fun c1_1 => ?_)
  refine AR.run g_X3_copyRow_4_3 9 [some (.ref 4101), some (.int (nI (r))), some (.int (nI (c)))] [.int (nI (13)), .int (nI (r))] _ [] rfl trivial ?_
  refine AR.ge2N (tgt := 51) (a := r) (b := 13) dc_X3_copyRow_9 (by decide) (by first | rfl | (simp only [nI_add, pk_mul]; first | done | rfl)) (by first | rfl | (simp only [nI_add, pk_mul]; first | done | rfl)) (by omega) (by omega) (fun c9_2 => absurd c9_2 (by omega)) (fun c9_2 => ?_)
  refine AR.run g_X3_copyRow_12_1 13 [some (.ref 4101), some (.int (nI (r))), some (.int (nI (c)))] [.int (nI (c))] _ [] rfl trivial ?_
  refine AR.ltN (tgt := 51) (a := c) dc_X3_copyRow_13 (by decide) (by first | rfl | (simp only [nI_add, pk_mul]; first | done | rfl)) (by omega) (fun c13_3 => absurd c13_3 (fun q => q)) (fun c13_3 => ?_)
  refine AR.run g_X3_copyRow_16_3 21 [some (.ref 4101), some (.int (nI (r))), some (.int (nI (c)))] [.int (nI (13)), .int (nI (c))] _ [] rfl trivial ?_
  refine AR.ge2N (tgt := 51) (a := c) (b := 13) dc_X3_copyRow_21 (by decide) (by first | rfl | (simp only [nI_add, pk_mul]; first | done | rfl)) (by first | rfl | (simp only [nI_add, pk_mul]; first | done | rfl)) (by omega) (by omega) (fun c21_4 => absurd c21_4 (by omega)) (fun c21_4 => ?_)
  refine AR.run g_X3_copyRow_24_14 48 [some (.ref 4101), some (.int (nI (r))), some (.int (nI (c)))] [.int (nI (120)), .int ((nI (c)) * (nI (120))), .ref 4102, .int ((nI (r)) * (nI (120))), .ref 4102] _ [] rfl trivial ?_
  refine AR.cast (L' := [some (.ref 4101), some (.int (nI (r))), some (.int (nI (c)))]) (st' := [.int (nI (120)), .int (nI ((c * 120))), .ref 4102, .int (nI ((r * 120))), .ref 4102]) (by first | rfl | (simp only [nI_add, pk_mul]; first | done | rfl)) (by first | rfl | (simp only [nI_add, pk_mul]; first | done | rfl)) rfl ?_
  refine AR.run g_X3_copyRow_48_1 51 [some (.ref 4101), some (.int (nI (r))), some (.int (nI (c)))] [] (hp o0 (ar (tu T 1 (va_cpy (T 1) (T 1) (Int32.toNatClampNeg (nI ((r * 120)))) (Int32.toNatClampNeg (nI ((c * 120)))) (Int32.toNatClampNeg (nI (120))))) K os sc) t0 p0 m0 u0 l0) [¬ (nI ((r * 120))) < 0, ¬ (nI ((c * 120))) < 0, ¬ (nI (120)) < 0, (Int32.toNatClampNeg (nI ((r * 120)))) + (Int32.toNatClampNeg (nI (120))) ≤ 1560, (Int32.toNatClampNeg (nI ((c * 120)))) + (Int32.toNatClampNeg (nI (120))) ≤ 1560] rfl ⟨nI_pos (by omega), nI_pos (by omega), nI_pos (by omega), (by simp only [nI_clamp (show (r * 120) < 2147483648 by omega), nI_clamp (show 120 < 2147483648 by omega)]; omega), (by unfold ab_all; simp only [nI_clamp (show (c * 120) < 2147483648 by omega), nI_clamp (show 120 < 2147483648 by omega)]; omega)⟩ ?_
  refine AR.cast (h1 := (hp o0 (ar (tu T 1 (va_cpy (T 1) (T 1) (r * 120) (c * 120) 120)) K os sc) t0 p0 m0 u0 l0)) rfl rfl (by simp only [nI_clamp (show (r * 120) < 2147483648 by omega), nI_clamp (show (c * 120) < 2147483648 by omega), nI_clamp (show 120 < 2147483648 by omega)]) ?_
  exact AR.retV dc_X3_copyRow_51 rfl rfl
set_option maxRecDepth 100000 in
set_option maxHeartbeats 4000000 in
theorem s_3copyRowT2 {E : AE} (d : Nat) (r : Nat) (c : Nat)  {o0 t0 p0 m0 u0 l0 : List AC} {T K : Nat → Nat → Int32} {os sc : Int32} (hr : r < 5) (hc : c < 5) : CT E M_X3_copyRow d [.ref 4104, .int (nI (r)), .int (nI (c))] (hp o0 (ar T K os sc) t0 p0 m0 u0 l0) (.inl none) (hp o0 (ar ((tu T 2 (va_cpy (T 2) (T 2) (r * 5) (c * 5) 5))) K os sc) t0 p0 m0 u0 l0) 0 0 := by
  refine CT.of (L := [some (.ref 4104), some (.int (nI (r))), some (.int (nI (c)))]) rfl rfl ?_
  refine AR.run g_X3_copyRow_0_1 1 [some (.ref 4104), some (.int (nI (r))), some (.int (nI (c)))] [.int (nI (r))] _ [] rfl trivial ?_
  refine AR.ltN (tgt := 51) (a := r) dc_X3_copyRow_1 (by decide) (by first | rfl | (simp only [nI_add, pk_mul]; first | done | rfl)) (by omega) (fun c1_1 => absurd c1_1 (fun q => q)) (fun c1_1 => ?_)
  refine AR.run g_X3_copyRow_4_3 9 [some (.ref 4104), some (.int (nI (r))), some (.int (nI (c)))] [.int (nI (5)), .int (nI (r))] _ [] rfl trivial ?_
  refine AR.ge2N (tgt := 51) (a := r) (b := 5) dc_X3_copyRow_9 (by decide) (by first | rfl | (simp only [nI_add, pk_mul]; first | done | rfl)) (by first | rfl | (simp only [nI_add, pk_mul]; first | done | rfl)) (by omega) (by omega) (fun c9_2 => absurd c9_2 (by omega)) (fun c9_2 => ?_)
  refine AR.run g_X3_copyRow_12_1 13 [some (.ref 4104), some (.int (nI (r))), some (.int (nI (c)))] [.int (nI (c))] _ [] rfl trivial ?_
  refine AR.ltN (tgt := 51) (a := c) dc_X3_copyRow_13 (by decide) (by first | rfl | (simp only [nI_add, pk_mul]; first | done | rfl)) (by omega) (fun c13_3 => absurd c13_3 (fun q => q)) (fun c13_3 => ?_)
  refine AR.run g_X3_copyRow_16_3 21 [some (.ref 4104), some (.int (nI (r))), some (.int (nI (c)))] [.int (nI (5)), .int (nI (c))] _ [] rfl trivial ?_
  refine AR.ge2N (tgt := 51) (a := c) (b := 5) dc_X3_copyRow_21 (by decide) (by first | rfl | (simp only [nI_add, pk_mul]; first | done | rfl)) (by first | rfl | (simp only [nI_add, pk_mul]; first | done | rfl)) (by omega) (by omega) (fun c21_4 => absurd c21_4 (by omega)) (fun c21_4 => ?_)
  refine AR.run g_X3_copyRow_24_14 48 [some (.ref 4104), some (.int (nI (r))), some (.int (nI (c)))] [.int (nI (5)), .int ((nI (c)) * (nI (5))), .ref 4105, .int ((nI (r)) * (nI (5))), .ref 4105] _ [] rfl trivial ?_
  refine AR.cast (L' := [some (.ref 4104), some (.int (nI (r))), some (.int (nI (c)))]) (st' := [.int (nI (5)), .int (nI ((c * 5))), .ref 4105, .int (nI ((r * 5))), .ref 4105]) (by first | rfl | (simp only [nI_add, pk_mul]; first | done | rfl)) (by first | rfl | (simp only [nI_add, pk_mul]; first | done | rfl)) rfl ?_
  refine AR.run g_X3_copyRow_48_1 51 [some (.ref 4104), some (.int (nI (r))), some (.int (nI (c)))] [] (hp o0 (ar (tu T 2 (va_cpy (T 2) (T 2) (Int32.toNatClampNeg (nI ((r * 5)))) (Int32.toNatClampNeg (nI ((c * 5)))) (Int32.toNatClampNeg (nI (5))))) K os sc) t0 p0 m0 u0 l0) [¬ (nI ((r * 5))) < 0, ¬ (nI ((c * 5))) < 0, ¬ (nI (5)) < 0, (Int32.toNatClampNeg (nI ((r * 5)))) + (Int32.toNatClampNeg (nI (5))) ≤ 25, (Int32.toNatClampNeg (nI ((c * 5)))) + (Int32.toNatClampNeg (nI (5))) ≤ 25] rfl ⟨nI_pos (by omega), nI_pos (by omega), nI_pos (by omega), (by simp only [nI_clamp (show (r * 5) < 2147483648 by omega), nI_clamp (show 5 < 2147483648 by omega)]; omega), (by unfold ab_all; simp only [nI_clamp (show (c * 5) < 2147483648 by omega), nI_clamp (show 5 < 2147483648 by omega)]; omega)⟩ ?_
  refine AR.cast (h1 := (hp o0 (ar (tu T 2 (va_cpy (T 2) (T 2) (r * 5) (c * 5) 5)) K os sc) t0 p0 m0 u0 l0)) rfl rfl (by simp only [nI_clamp (show (r * 5) < 2147483648 by omega), nI_clamp (show (c * 5) < 2147483648 by omega), nI_clamp (show 5 < 2147483648 by omega)]) ?_
  exact AR.retV dc_X3_copyRow_51 rfl rfl
set_option maxRecDepth 100000 in
set_option maxHeartbeats 4000000 in
theorem s_3copyRowG2 {E : AE} (d : Nat) (r : Nat) (c : Nat)  {o0 a0 t0 m0 u0 l0 : List AC} {pg ph pc : Nat → Int32} {pm : Int32} (hr : r < 2) (hc : c < 2) : CT E M_X3_copyRow d [.ref 12295, .int (nI (r)), .int (nI (c))] (hp o0 a0 t0 (pl pg ph pc pm) m0 u0 l0) (.inl none) (hp o0 a0 t0 (pl pg ph ((va_cpy pc pc (r * 4) (c * 4) 4)) pm) m0 u0 l0) 0 0 := by
  refine CT.of (L := [some (.ref 12295), some (.int (nI (r))), some (.int (nI (c)))]) rfl rfl ?_
  refine AR.run g_X3_copyRow_0_1 1 [some (.ref 12295), some (.int (nI (r))), some (.int (nI (c)))] [.int (nI (r))] _ [] rfl trivial ?_
  refine AR.ltN (tgt := 51) (a := r) dc_X3_copyRow_1 (by decide) (by first | rfl | (simp only [nI_add, pk_mul]; first | done | rfl)) (by omega) (fun c1_1 => absurd c1_1 (fun q => q)) (fun c1_1 => ?_)
  refine AR.run g_X3_copyRow_4_3 9 [some (.ref 12295), some (.int (nI (r))), some (.int (nI (c)))] [.int (nI (2)), .int (nI (r))] _ [] rfl trivial ?_
  refine AR.ge2N (tgt := 51) (a := r) (b := 2) dc_X3_copyRow_9 (by decide) (by first | rfl | (simp only [nI_add, pk_mul]; first | done | rfl)) (by first | rfl | (simp only [nI_add, pk_mul]; first | done | rfl)) (by omega) (by omega) (fun c9_2 => absurd c9_2 (by omega)) (fun c9_2 => ?_)
  refine AR.run g_X3_copyRow_12_1 13 [some (.ref 12295), some (.int (nI (r))), some (.int (nI (c)))] [.int (nI (c))] _ [] rfl trivial ?_
  refine AR.ltN (tgt := 51) (a := c) dc_X3_copyRow_13 (by decide) (by first | rfl | (simp only [nI_add, pk_mul]; first | done | rfl)) (by omega) (fun c13_3 => absurd c13_3 (fun q => q)) (fun c13_3 => ?_)
  refine AR.run g_X3_copyRow_16_3 21 [some (.ref 12295), some (.int (nI (r))), some (.int (nI (c)))] [.int (nI (2)), .int (nI (c))] _ [] rfl trivial ?_
  refine AR.ge2N (tgt := 51) (a := c) (b := 2) dc_X3_copyRow_21 (by decide) (by first | rfl | (simp only [nI_add, pk_mul]; first | done | rfl)) (by first | rfl | (simp only [nI_add, pk_mul]; first | done | rfl)) (by omega) (by omega) (fun c21_4 => absurd c21_4 (by omega)) (fun c21_4 => ?_)
  refine AR.run g_X3_copyRow_24_14 48 [some (.ref 12295), some (.int (nI (r))), some (.int (nI (c)))] [.int (nI (4)), .int ((nI (c)) * (nI (4))), .ref 12296, .int ((nI (r)) * (nI (4))), .ref 12296] _ [] rfl trivial ?_
  refine AR.cast (L' := [some (.ref 12295), some (.int (nI (r))), some (.int (nI (c)))]) (st' := [.int (nI (4)), .int (nI ((c * 4))), .ref 12296, .int (nI ((r * 4))), .ref 12296]) (by first | rfl | (simp only [nI_add, pk_mul]; first | done | rfl)) (by first | rfl | (simp only [nI_add, pk_mul]; first | done | rfl)) rfl ?_
  refine AR.run g_X3_copyRow_48_1 51 [some (.ref 12295), some (.int (nI (r))), some (.int (nI (c)))] [] (hp o0 a0 t0 (pl pg ph (va_cpy pc pc (Int32.toNatClampNeg (nI ((r * 4)))) (Int32.toNatClampNeg (nI ((c * 4)))) (Int32.toNatClampNeg (nI (4)))) pm) m0 u0 l0) [¬ (nI ((r * 4))) < 0, ¬ (nI ((c * 4))) < 0, ¬ (nI (4)) < 0, (Int32.toNatClampNeg (nI ((r * 4)))) + (Int32.toNatClampNeg (nI (4))) ≤ 8, (Int32.toNatClampNeg (nI ((c * 4)))) + (Int32.toNatClampNeg (nI (4))) ≤ 8] rfl ⟨nI_pos (by omega), nI_pos (by omega), nI_pos (by omega), (by simp only [nI_clamp (show (r * 4) < 2147483648 by omega), nI_clamp (show 4 < 2147483648 by omega)]; omega), (by unfold ab_all; simp only [nI_clamp (show (c * 4) < 2147483648 by omega), nI_clamp (show 4 < 2147483648 by omega)]; omega)⟩ ?_
  refine AR.cast (h1 := (hp o0 a0 t0 (pl pg ph (va_cpy pc pc (r * 4) (c * 4) 4) pm) m0 u0 l0)) rfl rfl (by simp only [nI_clamp (show (r * 4) < 2147483648 by omega), nI_clamp (show (c * 4) < 2147483648 by omega), nI_clamp (show 4 < 2147483648 by omega)]) ?_
  exact AR.retV dc_X3_copyRow_51 rfl rfl
theorem g_X3_hasCopy_0_1 : ab_oks M_X3_hasCopy [(0, .iload_n 1, 1, 1, 0, 0, .null)] = true := by decide +kernel
theorem dc_X3_hasCopy_1 : decode (AM.bytes M_X3_hasCopy) 1 = .ok (.ifCond .lt 30, 3) := by decide +kernel
theorem g_X3_hasCopy_4_2 : ab_oks M_X3_hasCopy [(4, .iload_n 1, 1, 1, 0, 0, .null), (5, .bipush 6, 2, 0, 0, 0, .int (nI (6)))] = true := by decide +kernel
theorem dc_X3_hasCopy_7 : decode (AM.bytes M_X3_hasCopy) 7 = .ok (.if_icmp .ge 24, 3) := by decide +kernel
theorem g_X3_hasCopy_10_10 : ab_oks M_X3_hasCopy [(10, .iload_n 1, 1, 1, 0, 0, .null), (11, .iconst 1, 1, 0, 0, 0, .int (nI (1))), (12, .iadd, 1, 0, 0, 0, .null), (13, .aload_n 0, 1, 0, 0, 0, .null), (14, .getfield 22, 3, 3, 2, 73, .null), (17, .arraylength, 1, 0, 0, 0, .null), (18, .imul, 1, 0, 0, 0, .null), (19, .aload_n 0, 1, 0, 0, 0, .null), (20, .getfield 26, 3, 3, 3, 74, .null), (23, .arraylength, 1, 0, 0, 0, .null)] = true := by decide +kernel
theorem dc_X3_hasCopy_24 : decode (AM.bytes M_X3_hasCopy) 24 = .ok (.if_icmp .gt 7, 3) := by decide +kernel
theorem g_X3_hasCopy_27_2 : ab_oks M_X3_hasCopy [(27, .iconst 1, 1, 0, 0, 0, .int (nI (1))), (28, .goto 4, 3, 32, 0, 0, .null)] = true := by decide +kernel
theorem dc_X3_hasCopy_32 : decode (AM.bytes M_X3_hasCopy) 32 = .ok (.ireturn, 1) := by decide +kernel
set_option maxRecDepth 100000 in
set_option maxHeartbeats 4000000 in
theorem s_3hasCopyT0 {E : AE} (d : Nat) (k : Nat)  {o0 t0 p0 m0 u0 l0 : List AC} {T K : Nat → Nat → Int32} {os sc : Int32} (hk : k < 6) : CT E M_X3_hasCopy d [.ref 4098, .int (nI (k))] (hp o0 (ar T K os sc) t0 p0 m0 u0 l0) (.inl (some (.int (nI (1))))) (hp o0 (ar T K os sc) t0 p0 m0 u0 l0) 0 0 := by
  refine CT.of (L := [some (.ref 4098), some (.int (nI (k)))]) rfl rfl ?_
  refine AR.run g_X3_hasCopy_0_1 1 [some (.ref 4098), some (.int (nI (k)))] [.int (nI (k))] _ [] rfl trivial ?_
  refine AR.ltN (tgt := 31) (a := k) dc_X3_hasCopy_1 (by decide) (by first | rfl | (simp only [nI_add, pk_mul]; first | done | rfl)) (by omega) (fun c1_1 => absurd c1_1 (fun q => q)) (fun c1_1 => ?_)
  refine AR.run g_X3_hasCopy_4_2 7 [some (.ref 4098), some (.int (nI (k)))] [.int (nI (6)), .int (nI (k))] _ [] rfl trivial ?_
  refine AR.ge2N (tgt := 31) (a := k) (b := 6) dc_X3_hasCopy_7 (by decide) (by first | rfl | (simp only [nI_add, pk_mul]; first | done | rfl)) (by first | rfl | (simp only [nI_add, pk_mul]; first | done | rfl)) (by omega) (by omega) (fun c7_2 => absurd c7_2 (by omega)) (fun c7_2 => ?_)
  refine AR.run g_X3_hasCopy_10_10 24 [some (.ref 4098), some (.int (nI (k)))] [.int (nI (546)), .int (((nI (k)) + (nI (1))) * (nI (91)))] _ [] rfl trivial ?_
  refine AR.gt2N (tgt := 31) (a := ((k + 1) * 91)) (b := 546) dc_X3_hasCopy_24 (by decide) (by first | rfl | (simp only [nI_add, pk_mul]; first | done | rfl)) (by first | rfl | (simp only [nI_add, pk_mul]; first | done | rfl)) (by omega) (by omega) (fun c24_3 => absurd c24_3 (by omega)) (fun c24_3 => ?_)
  refine AR.run g_X3_hasCopy_27_2 32 [some (.ref 4098), some (.int (nI (k)))] [.int (nI (1))] _ [] rfl trivial ?_
  exact AR.retZ dc_X3_hasCopy_32 rfl (Or.inr rfl) rfl rfl
theorem g_X3_keep_0_2 : ab_oks M_X3_keep [(0, .aload_n 0, 1, 0, 0, 0, .null), (1, .iload_n 1, 1, 1, 0, 0, .null)] = true := by decide +kernel
theorem lk_3_43 : ab_lkV "LeafCradles$Table" 43 M_X3_hasCopy 1 [592, 594, 17, 31, 595] = true := by decide +kernel
theorem dc_X3_keep_2 : decode (AM.bytes M_X3_keep) 2 = .ok (.invokevirtual 43, 3) := by decide +kernel
theorem dc_X3_keep_5 : decode (AM.bytes M_X3_keep) 5 = .ok (.ifCond .eq 27, 3) := by decide +kernel
theorem g_X3_keep_8_13 : ab_oks M_X3_keep [(8, .aload_n 0, 1, 0, 0, 0, .null), (9, .getfield 22, 3, 3, 2, 73, .null), (12, .iconst 0, 1, 0, 0, 0, .int (nI (0))), (13, .aload_n 0, 1, 0, 0, 0, .null), (14, .getfield 26, 3, 3, 3, 74, .null), (17, .iload_n 1, 1, 1, 0, 0, .null), (18, .aload_n 0, 1, 0, 0, 0, .null), (19, .getfield 22, 3, 3, 2, 73, .null), (22, .arraylength, 1, 0, 0, 0, .null), (23, .imul, 1, 0, 0, 0, .null), (24, .aload_n 0, 1, 0, 0, 0, .null), (25, .getfield 22, 3, 3, 2, 73, .null), (28, .arraylength, 1, 0, 0, 0, .null)] = true := by decide +kernel
theorem g_X3_keep_29_1 : ab_oks M_X3_keep [(29, .invokestatic 37, 3, 4, 0, 456, .null)] = true := by decide +kernel
theorem dc_X3_keep_32 : decode (AM.bytes M_X3_keep) 32 = .ok (.return_, 1) := by decide +kernel
set_option maxRecDepth 100000 in
set_option maxHeartbeats 4000000 in
theorem s_3keepT0 {E : AE} (d : Nat) (k : Nat)  {o0 t0 p0 m0 u0 l0 : List AC} {T K : Nat → Nat → Int32} {os sc : Int32} (hk : k < 6) : CT E M_X3_keep (d + 1) [.ref 4098, .int (nI (k))] (hp o0 (ar T K os sc) t0 p0 m0 u0 l0) (.inl none) (hp o0 (ar T ((tu K 0 (va_cpy (T 0) (K 0) 0 (k * 91) 91))) os sc) t0 p0 m0 u0 l0) 0 0 := by
  refine CT.of (L := [some (.ref 4098), some (.int (nI (k)))]) rfl rfl ?_
  refine AR.run g_X3_keep_0_2 2 [some (.ref 4098), some (.int (nI (k)))] [.int (nI (k)), .ref 4098] _ [] rfl trivial ?_
  refine AR.callV1 (4098) [.int (nI (k))] [] lk_3_43 dc_X3_keep_2 rfl rfl (s_3hasCopyT0 _ k (by omega)) (by first | rfl | (simp only [nI_add, pk_mul]; first | done | rfl)) rfl ?_
  refine AR.eqN (tgt := 32) (a := 1) dc_X3_keep_5 (by decide) (by first | rfl | (simp only [nI_add, pk_mul]; first | done | rfl)) (by omega) (fun c5_1 => absurd c5_1 (by omega)) (fun c5_1 => ?_)
  refine AR.run g_X3_keep_8_13 29 [some (.ref 4098), some (.int (nI (k)))] [.int (nI (91)), .int ((nI (k)) * (nI (91))), .ref 4100, .int (nI (0)), .ref 4099] _ [] rfl trivial ?_
  refine AR.cast (L' := [some (.ref 4098), some (.int (nI (k)))]) (st' := [.int (nI (91)), .int (nI ((k * 91))), .ref 4100, .int (nI (0)), .ref 4099]) (by first | rfl | (simp only [nI_add, pk_mul]; first | done | rfl)) (by first | rfl | (simp only [nI_add, pk_mul]; first | done | rfl)) rfl ?_
  refine AR.run g_X3_keep_29_1 32 [some (.ref 4098), some (.int (nI (k)))] [] (hp o0 (ar T (tu K 0 (va_cpy (T 0) (K 0) (Int32.toNatClampNeg (nI (0))) (Int32.toNatClampNeg (nI ((k * 91)))) (Int32.toNatClampNeg (nI (91))))) os sc) t0 p0 m0 u0 l0) [¬ (nI (0)) < 0, ¬ (nI ((k * 91))) < 0, ¬ (nI (91)) < 0, (Int32.toNatClampNeg (nI (0))) + (Int32.toNatClampNeg (nI (91))) ≤ 91, (Int32.toNatClampNeg (nI ((k * 91)))) + (Int32.toNatClampNeg (nI (91))) ≤ 546] rfl ⟨nI_pos (by omega), nI_pos (by omega), nI_pos (by omega), (by simp only [nI_clamp (show 0 < 2147483648 by omega), nI_clamp (show 91 < 2147483648 by omega)]; omega), (by unfold ab_all; simp only [nI_clamp (show (k * 91) < 2147483648 by omega), nI_clamp (show 91 < 2147483648 by omega)]; omega)⟩ ?_
  refine AR.cast (h1 := (hp o0 (ar T (tu K 0 (va_cpy (T 0) (K 0) 0 (k * 91) 91)) os sc) t0 p0 m0 u0 l0)) rfl rfl (by simp only [nI_clamp (show 0 < 2147483648 by omega), nI_clamp (show (k * 91) < 2147483648 by omega), nI_clamp (show 91 < 2147483648 by omega)]) ?_
  exact AR.retV dc_X3_keep_32 rfl rfl
set_option maxRecDepth 100000 in
set_option maxHeartbeats 4000000 in
theorem s_3hasCopyT1 {E : AE} (d : Nat) (k : Nat)  {o0 t0 p0 m0 u0 l0 : List AC} {T K : Nat → Nat → Int32} {os sc : Int32} (hk : k < 6) : CT E M_X3_hasCopy d [.ref 4101, .int (nI (k))] (hp o0 (ar T K os sc) t0 p0 m0 u0 l0) (.inl (some (.int (nI (1))))) (hp o0 (ar T K os sc) t0 p0 m0 u0 l0) 0 0 := by
  refine CT.of (L := [some (.ref 4101), some (.int (nI (k)))]) rfl rfl ?_
  refine AR.run g_X3_hasCopy_0_1 1 [some (.ref 4101), some (.int (nI (k)))] [.int (nI (k))] _ [] rfl trivial ?_
  refine AR.ltN (tgt := 31) (a := k) dc_X3_hasCopy_1 (by decide) (by first | rfl | (simp only [nI_add, pk_mul]; first | done | rfl)) (by omega) (fun c1_1 => absurd c1_1 (fun q => q)) (fun c1_1 => ?_)
  refine AR.run g_X3_hasCopy_4_2 7 [some (.ref 4101), some (.int (nI (k)))] [.int (nI (6)), .int (nI (k))] _ [] rfl trivial ?_
  refine AR.ge2N (tgt := 31) (a := k) (b := 6) dc_X3_hasCopy_7 (by decide) (by first | rfl | (simp only [nI_add, pk_mul]; first | done | rfl)) (by first | rfl | (simp only [nI_add, pk_mul]; first | done | rfl)) (by omega) (by omega) (fun c7_2 => absurd c7_2 (by omega)) (fun c7_2 => ?_)
  refine AR.run g_X3_hasCopy_10_10 24 [some (.ref 4101), some (.int (nI (k)))] [.int (nI (9360)), .int (((nI (k)) + (nI (1))) * (nI (1560)))] _ [] rfl trivial ?_
  refine AR.gt2N (tgt := 31) (a := ((k + 1) * 1560)) (b := 9360) dc_X3_hasCopy_24 (by decide) (by first | rfl | (simp only [nI_add, pk_mul]; first | done | rfl)) (by first | rfl | (simp only [nI_add, pk_mul]; first | done | rfl)) (by omega) (by omega) (fun c24_3 => absurd c24_3 (by omega)) (fun c24_3 => ?_)
  refine AR.run g_X3_hasCopy_27_2 32 [some (.ref 4101), some (.int (nI (k)))] [.int (nI (1))] _ [] rfl trivial ?_
  exact AR.retZ dc_X3_hasCopy_32 rfl (Or.inr rfl) rfl rfl
set_option maxRecDepth 100000 in
set_option maxHeartbeats 4000000 in
theorem s_3keepT1 {E : AE} (d : Nat) (k : Nat)  {o0 t0 p0 m0 u0 l0 : List AC} {T K : Nat → Nat → Int32} {os sc : Int32} (hk : k < 6) : CT E M_X3_keep (d + 1) [.ref 4101, .int (nI (k))] (hp o0 (ar T K os sc) t0 p0 m0 u0 l0) (.inl none) (hp o0 (ar T ((tu K 1 (va_cpy (T 1) (K 1) 0 (k * 1560) 1560))) os sc) t0 p0 m0 u0 l0) 0 0 := by
  refine CT.of (L := [some (.ref 4101), some (.int (nI (k)))]) rfl rfl ?_
  refine AR.run g_X3_keep_0_2 2 [some (.ref 4101), some (.int (nI (k)))] [.int (nI (k)), .ref 4101] _ [] rfl trivial ?_
  refine AR.callV1 (4101) [.int (nI (k))] [] lk_3_43 dc_X3_keep_2 rfl rfl (s_3hasCopyT1 _ k (by omega)) (by first | rfl | (simp only [nI_add, pk_mul]; first | done | rfl)) rfl ?_
  refine AR.eqN (tgt := 32) (a := 1) dc_X3_keep_5 (by decide) (by first | rfl | (simp only [nI_add, pk_mul]; first | done | rfl)) (by omega) (fun c5_1 => absurd c5_1 (by omega)) (fun c5_1 => ?_)
  refine AR.run g_X3_keep_8_13 29 [some (.ref 4101), some (.int (nI (k)))] [.int (nI (1560)), .int ((nI (k)) * (nI (1560))), .ref 4103, .int (nI (0)), .ref 4102] _ [] rfl trivial ?_
  refine AR.cast (L' := [some (.ref 4101), some (.int (nI (k)))]) (st' := [.int (nI (1560)), .int (nI ((k * 1560))), .ref 4103, .int (nI (0)), .ref 4102]) (by first | rfl | (simp only [nI_add, pk_mul]; first | done | rfl)) (by first | rfl | (simp only [nI_add, pk_mul]; first | done | rfl)) rfl ?_
  refine AR.run g_X3_keep_29_1 32 [some (.ref 4101), some (.int (nI (k)))] [] (hp o0 (ar T (tu K 1 (va_cpy (T 1) (K 1) (Int32.toNatClampNeg (nI (0))) (Int32.toNatClampNeg (nI ((k * 1560)))) (Int32.toNatClampNeg (nI (1560))))) os sc) t0 p0 m0 u0 l0) [¬ (nI (0)) < 0, ¬ (nI ((k * 1560))) < 0, ¬ (nI (1560)) < 0, (Int32.toNatClampNeg (nI (0))) + (Int32.toNatClampNeg (nI (1560))) ≤ 1560, (Int32.toNatClampNeg (nI ((k * 1560)))) + (Int32.toNatClampNeg (nI (1560))) ≤ 9360] rfl ⟨nI_pos (by omega), nI_pos (by omega), nI_pos (by omega), (by simp only [nI_clamp (show 0 < 2147483648 by omega), nI_clamp (show 1560 < 2147483648 by omega)]; omega), (by unfold ab_all; simp only [nI_clamp (show (k * 1560) < 2147483648 by omega), nI_clamp (show 1560 < 2147483648 by omega)]; omega)⟩ ?_
  refine AR.cast (h1 := (hp o0 (ar T (tu K 1 (va_cpy (T 1) (K 1) 0 (k * 1560) 1560)) os sc) t0 p0 m0 u0 l0)) rfl rfl (by simp only [nI_clamp (show 0 < 2147483648 by omega), nI_clamp (show (k * 1560) < 2147483648 by omega), nI_clamp (show 1560 < 2147483648 by omega)]) ?_
  exact AR.retV dc_X3_keep_32 rfl rfl
set_option maxRecDepth 100000 in
set_option maxHeartbeats 4000000 in
theorem s_3hasCopyT2 {E : AE} (d : Nat) (k : Nat)  {o0 t0 p0 m0 u0 l0 : List AC} {T K : Nat → Nat → Int32} {os sc : Int32} (hk : k < 6) : CT E M_X3_hasCopy d [.ref 4104, .int (nI (k))] (hp o0 (ar T K os sc) t0 p0 m0 u0 l0) (.inl (some (.int (nI (1))))) (hp o0 (ar T K os sc) t0 p0 m0 u0 l0) 0 0 := by
  refine CT.of (L := [some (.ref 4104), some (.int (nI (k)))]) rfl rfl ?_
  refine AR.run g_X3_hasCopy_0_1 1 [some (.ref 4104), some (.int (nI (k)))] [.int (nI (k))] _ [] rfl trivial ?_
  refine AR.ltN (tgt := 31) (a := k) dc_X3_hasCopy_1 (by decide) (by first | rfl | (simp only [nI_add, pk_mul]; first | done | rfl)) (by omega) (fun c1_1 => absurd c1_1 (fun q => q)) (fun c1_1 => ?_)
  refine AR.run g_X3_hasCopy_4_2 7 [some (.ref 4104), some (.int (nI (k)))] [.int (nI (6)), .int (nI (k))] _ [] rfl trivial ?_
  refine AR.ge2N (tgt := 31) (a := k) (b := 6) dc_X3_hasCopy_7 (by decide) (by first | rfl | (simp only [nI_add, pk_mul]; first | done | rfl)) (by first | rfl | (simp only [nI_add, pk_mul]; first | done | rfl)) (by omega) (by omega) (fun c7_2 => absurd c7_2 (by omega)) (fun c7_2 => ?_)
  refine AR.run g_X3_hasCopy_10_10 24 [some (.ref 4104), some (.int (nI (k)))] [.int (nI (150)), .int (((nI (k)) + (nI (1))) * (nI (25)))] _ [] rfl trivial ?_
  refine AR.gt2N (tgt := 31) (a := ((k + 1) * 25)) (b := 150) dc_X3_hasCopy_24 (by decide) (by first | rfl | (simp only [nI_add, pk_mul]; first | done | rfl)) (by first | rfl | (simp only [nI_add, pk_mul]; first | done | rfl)) (by omega) (by omega) (fun c24_3 => absurd c24_3 (by omega)) (fun c24_3 => ?_)
  refine AR.run g_X3_hasCopy_27_2 32 [some (.ref 4104), some (.int (nI (k)))] [.int (nI (1))] _ [] rfl trivial ?_
  exact AR.retZ dc_X3_hasCopy_32 rfl (Or.inr rfl) rfl rfl
set_option maxRecDepth 100000 in
set_option maxHeartbeats 4000000 in
theorem s_3keepT2 {E : AE} (d : Nat) (k : Nat)  {o0 t0 p0 m0 u0 l0 : List AC} {T K : Nat → Nat → Int32} {os sc : Int32} (hk : k < 6) : CT E M_X3_keep (d + 1) [.ref 4104, .int (nI (k))] (hp o0 (ar T K os sc) t0 p0 m0 u0 l0) (.inl none) (hp o0 (ar T ((tu K 2 (va_cpy (T 2) (K 2) 0 (k * 25) 25))) os sc) t0 p0 m0 u0 l0) 0 0 := by
  refine CT.of (L := [some (.ref 4104), some (.int (nI (k)))]) rfl rfl ?_
  refine AR.run g_X3_keep_0_2 2 [some (.ref 4104), some (.int (nI (k)))] [.int (nI (k)), .ref 4104] _ [] rfl trivial ?_
  refine AR.callV1 (4104) [.int (nI (k))] [] lk_3_43 dc_X3_keep_2 rfl rfl (s_3hasCopyT2 _ k (by omega)) (by first | rfl | (simp only [nI_add, pk_mul]; first | done | rfl)) rfl ?_
  refine AR.eqN (tgt := 32) (a := 1) dc_X3_keep_5 (by decide) (by first | rfl | (simp only [nI_add, pk_mul]; first | done | rfl)) (by omega) (fun c5_1 => absurd c5_1 (by omega)) (fun c5_1 => ?_)
  refine AR.run g_X3_keep_8_13 29 [some (.ref 4104), some (.int (nI (k)))] [.int (nI (25)), .int ((nI (k)) * (nI (25))), .ref 4106, .int (nI (0)), .ref 4105] _ [] rfl trivial ?_
  refine AR.cast (L' := [some (.ref 4104), some (.int (nI (k)))]) (st' := [.int (nI (25)), .int (nI ((k * 25))), .ref 4106, .int (nI (0)), .ref 4105]) (by first | rfl | (simp only [nI_add, pk_mul]; first | done | rfl)) (by first | rfl | (simp only [nI_add, pk_mul]; first | done | rfl)) rfl ?_
  refine AR.run g_X3_keep_29_1 32 [some (.ref 4104), some (.int (nI (k)))] [] (hp o0 (ar T (tu K 2 (va_cpy (T 2) (K 2) (Int32.toNatClampNeg (nI (0))) (Int32.toNatClampNeg (nI ((k * 25)))) (Int32.toNatClampNeg (nI (25))))) os sc) t0 p0 m0 u0 l0) [¬ (nI (0)) < 0, ¬ (nI ((k * 25))) < 0, ¬ (nI (25)) < 0, (Int32.toNatClampNeg (nI (0))) + (Int32.toNatClampNeg (nI (25))) ≤ 25, (Int32.toNatClampNeg (nI ((k * 25)))) + (Int32.toNatClampNeg (nI (25))) ≤ 150] rfl ⟨nI_pos (by omega), nI_pos (by omega), nI_pos (by omega), (by simp only [nI_clamp (show 0 < 2147483648 by omega), nI_clamp (show 25 < 2147483648 by omega)]; omega), (by unfold ab_all; simp only [nI_clamp (show (k * 25) < 2147483648 by omega), nI_clamp (show 25 < 2147483648 by omega)]; omega)⟩ ?_
  refine AR.cast (h1 := (hp o0 (ar T (tu K 2 (va_cpy (T 2) (K 2) 0 (k * 25) 25)) os sc) t0 p0 m0 u0 l0)) rfl rfl (by simp only [nI_clamp (show 0 < 2147483648 by omega), nI_clamp (show (k * 25) < 2147483648 by omega), nI_clamp (show 25 < 2147483648 by omega)]) ?_
  exact AR.retV dc_X3_keep_32 rfl rfl
set_option maxRecDepth 100000 in
set_option maxHeartbeats 4000000 in
theorem s_3hasCopyT3 {E : AE} (d : Nat) (k : Nat)  {o0 t0 p0 m0 u0 l0 : List AC} {T K : Nat → Nat → Int32} {os sc : Int32} (hk : k < 6) : CT E M_X3_hasCopy d [.ref 4107, .int (nI (k))] (hp o0 (ar T K os sc) t0 p0 m0 u0 l0) (.inl (some (.int (nI (1))))) (hp o0 (ar T K os sc) t0 p0 m0 u0 l0) 0 0 := by
  refine CT.of (L := [some (.ref 4107), some (.int (nI (k)))]) rfl rfl ?_
  refine AR.run g_X3_hasCopy_0_1 1 [some (.ref 4107), some (.int (nI (k)))] [.int (nI (k))] _ [] rfl trivial ?_
  refine AR.ltN (tgt := 31) (a := k) dc_X3_hasCopy_1 (by decide) (by first | rfl | (simp only [nI_add, pk_mul]; first | done | rfl)) (by omega) (fun c1_1 => absurd c1_1 (fun q => q)) (fun c1_1 => ?_)
  refine AR.run g_X3_hasCopy_4_2 7 [some (.ref 4107), some (.int (nI (k)))] [.int (nI (6)), .int (nI (k))] _ [] rfl trivial ?_
  refine AR.ge2N (tgt := 31) (a := k) (b := 6) dc_X3_hasCopy_7 (by decide) (by first | rfl | (simp only [nI_add, pk_mul]; first | done | rfl)) (by first | rfl | (simp only [nI_add, pk_mul]; first | done | rfl)) (by omega) (by omega) (fun c7_2 => absurd c7_2 (by omega)) (fun c7_2 => ?_)
  refine AR.run g_X3_hasCopy_10_10 24 [some (.ref 4107), some (.int (nI (k)))] [.int (nI (72)), .int (((nI (k)) + (nI (1))) * (nI (12)))] _ [] rfl trivial ?_
  refine AR.gt2N (tgt := 31) (a := ((k + 1) * 12)) (b := 72) dc_X3_hasCopy_24 (by decide) (by first | rfl | (simp only [nI_add, pk_mul]; first | done | rfl)) (by first | rfl | (simp only [nI_add, pk_mul]; first | done | rfl)) (by omega) (by omega) (fun c24_3 => absurd c24_3 (by omega)) (fun c24_3 => ?_)
  refine AR.run g_X3_hasCopy_27_2 32 [some (.ref 4107), some (.int (nI (k)))] [.int (nI (1))] _ [] rfl trivial ?_
  exact AR.retZ dc_X3_hasCopy_32 rfl (Or.inr rfl) rfl rfl
set_option maxRecDepth 100000 in
set_option maxHeartbeats 4000000 in
theorem s_3keepT3 {E : AE} (d : Nat) (k : Nat)  {o0 t0 p0 m0 u0 l0 : List AC} {T K : Nat → Nat → Int32} {os sc : Int32} (hk : k < 6) : CT E M_X3_keep (d + 1) [.ref 4107, .int (nI (k))] (hp o0 (ar T K os sc) t0 p0 m0 u0 l0) (.inl none) (hp o0 (ar T ((tu K 3 (va_cpy (T 3) (K 3) 0 (k * 12) 12))) os sc) t0 p0 m0 u0 l0) 0 0 := by
  refine CT.of (L := [some (.ref 4107), some (.int (nI (k)))]) rfl rfl ?_
  refine AR.run g_X3_keep_0_2 2 [some (.ref 4107), some (.int (nI (k)))] [.int (nI (k)), .ref 4107] _ [] rfl trivial ?_
  refine AR.callV1 (4107) [.int (nI (k))] [] lk_3_43 dc_X3_keep_2 rfl rfl (s_3hasCopyT3 _ k (by omega)) (by first | rfl | (simp only [nI_add, pk_mul]; first | done | rfl)) rfl ?_
  refine AR.eqN (tgt := 32) (a := 1) dc_X3_keep_5 (by decide) (by first | rfl | (simp only [nI_add, pk_mul]; first | done | rfl)) (by omega) (fun c5_1 => absurd c5_1 (by omega)) (fun c5_1 => ?_)
  refine AR.run g_X3_keep_8_13 29 [some (.ref 4107), some (.int (nI (k)))] [.int (nI (12)), .int ((nI (k)) * (nI (12))), .ref 4109, .int (nI (0)), .ref 4108] _ [] rfl trivial ?_
  refine AR.cast (L' := [some (.ref 4107), some (.int (nI (k)))]) (st' := [.int (nI (12)), .int (nI ((k * 12))), .ref 4109, .int (nI (0)), .ref 4108]) (by first | rfl | (simp only [nI_add, pk_mul]; first | done | rfl)) (by first | rfl | (simp only [nI_add, pk_mul]; first | done | rfl)) rfl ?_
  refine AR.run g_X3_keep_29_1 32 [some (.ref 4107), some (.int (nI (k)))] [] (hp o0 (ar T (tu K 3 (va_cpy (T 3) (K 3) (Int32.toNatClampNeg (nI (0))) (Int32.toNatClampNeg (nI ((k * 12)))) (Int32.toNatClampNeg (nI (12))))) os sc) t0 p0 m0 u0 l0) [¬ (nI (0)) < 0, ¬ (nI ((k * 12))) < 0, ¬ (nI (12)) < 0, (Int32.toNatClampNeg (nI (0))) + (Int32.toNatClampNeg (nI (12))) ≤ 12, (Int32.toNatClampNeg (nI ((k * 12)))) + (Int32.toNatClampNeg (nI (12))) ≤ 72] rfl ⟨nI_pos (by omega), nI_pos (by omega), nI_pos (by omega), (by simp only [nI_clamp (show 0 < 2147483648 by omega), nI_clamp (show 12 < 2147483648 by omega)]; omega), (by unfold ab_all; simp only [nI_clamp (show (k * 12) < 2147483648 by omega), nI_clamp (show 12 < 2147483648 by omega)]; omega)⟩ ?_
  refine AR.cast (h1 := (hp o0 (ar T (tu K 3 (va_cpy (T 3) (K 3) 0 (k * 12) 12)) os sc) t0 p0 m0 u0 l0)) rfl rfl (by simp only [nI_clamp (show 0 < 2147483648 by omega), nI_clamp (show (k * 12) < 2147483648 by omega), nI_clamp (show 12 < 2147483648 by omega)]) ?_
  exact AR.retV dc_X3_keep_32 rfl rfl
set_option maxRecDepth 100000 in
set_option maxHeartbeats 4000000 in
theorem s_3hasCopyT4 {E : AE} (d : Nat) (k : Nat)  {o0 t0 p0 m0 u0 l0 : List AC} {T K : Nat → Nat → Int32} {os sc : Int32} (hk : k < 6) : CT E M_X3_hasCopy d [.ref 4110, .int (nI (k))] (hp o0 (ar T K os sc) t0 p0 m0 u0 l0) (.inl (some (.int (nI (1))))) (hp o0 (ar T K os sc) t0 p0 m0 u0 l0) 0 0 := by
  refine CT.of (L := [some (.ref 4110), some (.int (nI (k)))]) rfl rfl ?_
  refine AR.run g_X3_hasCopy_0_1 1 [some (.ref 4110), some (.int (nI (k)))] [.int (nI (k))] _ [] rfl trivial ?_
  refine AR.ltN (tgt := 31) (a := k) dc_X3_hasCopy_1 (by decide) (by first | rfl | (simp only [nI_add, pk_mul]; first | done | rfl)) (by omega) (fun c1_1 => absurd c1_1 (fun q => q)) (fun c1_1 => ?_)
  refine AR.run g_X3_hasCopy_4_2 7 [some (.ref 4110), some (.int (nI (k)))] [.int (nI (6)), .int (nI (k))] _ [] rfl trivial ?_
  refine AR.ge2N (tgt := 31) (a := k) (b := 6) dc_X3_hasCopy_7 (by decide) (by first | rfl | (simp only [nI_add, pk_mul]; first | done | rfl)) (by first | rfl | (simp only [nI_add, pk_mul]; first | done | rfl)) (by omega) (by omega) (fun c7_2 => absurd c7_2 (by omega)) (fun c7_2 => ?_)
  refine AR.run g_X3_hasCopy_10_10 24 [some (.ref 4110), some (.int (nI (k)))] [.int (nI (1800)), .int (((nI (k)) + (nI (1))) * (nI (300)))] _ [] rfl trivial ?_
  refine AR.gt2N (tgt := 31) (a := ((k + 1) * 300)) (b := 1800) dc_X3_hasCopy_24 (by decide) (by first | rfl | (simp only [nI_add, pk_mul]; first | done | rfl)) (by first | rfl | (simp only [nI_add, pk_mul]; first | done | rfl)) (by omega) (by omega) (fun c24_3 => absurd c24_3 (by omega)) (fun c24_3 => ?_)
  refine AR.run g_X3_hasCopy_27_2 32 [some (.ref 4110), some (.int (nI (k)))] [.int (nI (1))] _ [] rfl trivial ?_
  exact AR.retZ dc_X3_hasCopy_32 rfl (Or.inr rfl) rfl rfl
set_option maxRecDepth 100000 in
set_option maxHeartbeats 4000000 in
theorem s_3keepT4 {E : AE} (d : Nat) (k : Nat)  {o0 t0 p0 m0 u0 l0 : List AC} {T K : Nat → Nat → Int32} {os sc : Int32} (hk : k < 6) : CT E M_X3_keep (d + 1) [.ref 4110, .int (nI (k))] (hp o0 (ar T K os sc) t0 p0 m0 u0 l0) (.inl none) (hp o0 (ar T ((tu K 4 (va_cpy (T 4) (K 4) 0 (k * 300) 300))) os sc) t0 p0 m0 u0 l0) 0 0 := by
  refine CT.of (L := [some (.ref 4110), some (.int (nI (k)))]) rfl rfl ?_
  refine AR.run g_X3_keep_0_2 2 [some (.ref 4110), some (.int (nI (k)))] [.int (nI (k)), .ref 4110] _ [] rfl trivial ?_
  refine AR.callV1 (4110) [.int (nI (k))] [] lk_3_43 dc_X3_keep_2 rfl rfl (s_3hasCopyT4 _ k (by omega)) (by first | rfl | (simp only [nI_add, pk_mul]; first | done | rfl)) rfl ?_
  refine AR.eqN (tgt := 32) (a := 1) dc_X3_keep_5 (by decide) (by first | rfl | (simp only [nI_add, pk_mul]; first | done | rfl)) (by omega) (fun c5_1 => absurd c5_1 (by omega)) (fun c5_1 => ?_)
  refine AR.run g_X3_keep_8_13 29 [some (.ref 4110), some (.int (nI (k)))] [.int (nI (300)), .int ((nI (k)) * (nI (300))), .ref 4112, .int (nI (0)), .ref 4111] _ [] rfl trivial ?_
  refine AR.cast (L' := [some (.ref 4110), some (.int (nI (k)))]) (st' := [.int (nI (300)), .int (nI ((k * 300))), .ref 4112, .int (nI (0)), .ref 4111]) (by first | rfl | (simp only [nI_add, pk_mul]; first | done | rfl)) (by first | rfl | (simp only [nI_add, pk_mul]; first | done | rfl)) rfl ?_
  refine AR.run g_X3_keep_29_1 32 [some (.ref 4110), some (.int (nI (k)))] [] (hp o0 (ar T (tu K 4 (va_cpy (T 4) (K 4) (Int32.toNatClampNeg (nI (0))) (Int32.toNatClampNeg (nI ((k * 300)))) (Int32.toNatClampNeg (nI (300))))) os sc) t0 p0 m0 u0 l0) [¬ (nI (0)) < 0, ¬ (nI ((k * 300))) < 0, ¬ (nI (300)) < 0, (Int32.toNatClampNeg (nI (0))) + (Int32.toNatClampNeg (nI (300))) ≤ 300, (Int32.toNatClampNeg (nI ((k * 300)))) + (Int32.toNatClampNeg (nI (300))) ≤ 1800] rfl ⟨nI_pos (by omega), nI_pos (by omega), nI_pos (by omega), (by simp only [nI_clamp (show 0 < 2147483648 by omega), nI_clamp (show 300 < 2147483648 by omega)]; omega), (by unfold ab_all; simp only [nI_clamp (show (k * 300) < 2147483648 by omega), nI_clamp (show 300 < 2147483648 by omega)]; omega)⟩ ?_
  refine AR.cast (h1 := (hp o0 (ar T (tu K 4 (va_cpy (T 4) (K 4) 0 (k * 300) 300)) os sc) t0 p0 m0 u0 l0)) rfl rfl (by simp only [nI_clamp (show 0 < 2147483648 by omega), nI_clamp (show (k * 300) < 2147483648 by omega), nI_clamp (show 300 < 2147483648 by omega)]) ?_
  exact AR.retV dc_X3_keep_32 rfl rfl
set_option maxRecDepth 100000 in
set_option maxHeartbeats 4000000 in
theorem s_3hasCopyT5 {E : AE} (d : Nat) (k : Nat)  {o0 t0 p0 m0 u0 l0 : List AC} {T K : Nat → Nat → Int32} {os sc : Int32} (hk : k < 6) : CT E M_X3_hasCopy d [.ref 4113, .int (nI (k))] (hp o0 (ar T K os sc) t0 p0 m0 u0 l0) (.inl (some (.int (nI (1))))) (hp o0 (ar T K os sc) t0 p0 m0 u0 l0) 0 0 := by
  refine CT.of (L := [some (.ref 4113), some (.int (nI (k)))]) rfl rfl ?_
  refine AR.run g_X3_hasCopy_0_1 1 [some (.ref 4113), some (.int (nI (k)))] [.int (nI (k))] _ [] rfl trivial ?_
  refine AR.ltN (tgt := 31) (a := k) dc_X3_hasCopy_1 (by decide) (by first | rfl | (simp only [nI_add, pk_mul]; first | done | rfl)) (by omega) (fun c1_1 => absurd c1_1 (fun q => q)) (fun c1_1 => ?_)
  refine AR.run g_X3_hasCopy_4_2 7 [some (.ref 4113), some (.int (nI (k)))] [.int (nI (6)), .int (nI (k))] _ [] rfl trivial ?_
  refine AR.ge2N (tgt := 31) (a := k) (b := 6) dc_X3_hasCopy_7 (by decide) (by first | rfl | (simp only [nI_add, pk_mul]; first | done | rfl)) (by first | rfl | (simp only [nI_add, pk_mul]; first | done | rfl)) (by omega) (by omega) (fun c7_2 => absurd c7_2 (by omega)) (fun c7_2 => ?_)
  refine AR.run g_X3_hasCopy_10_10 24 [some (.ref 4113), some (.int (nI (k)))] [.int (nI (66)), .int (((nI (k)) + (nI (1))) * (nI (11)))] _ [] rfl trivial ?_
  refine AR.gt2N (tgt := 31) (a := ((k + 1) * 11)) (b := 66) dc_X3_hasCopy_24 (by decide) (by first | rfl | (simp only [nI_add, pk_mul]; first | done | rfl)) (by first | rfl | (simp only [nI_add, pk_mul]; first | done | rfl)) (by omega) (by omega) (fun c24_3 => absurd c24_3 (by omega)) (fun c24_3 => ?_)
  refine AR.run g_X3_hasCopy_27_2 32 [some (.ref 4113), some (.int (nI (k)))] [.int (nI (1))] _ [] rfl trivial ?_
  exact AR.retZ dc_X3_hasCopy_32 rfl (Or.inr rfl) rfl rfl
set_option maxRecDepth 100000 in
set_option maxHeartbeats 4000000 in
theorem s_3keepT5 {E : AE} (d : Nat) (k : Nat)  {o0 t0 p0 m0 u0 l0 : List AC} {T K : Nat → Nat → Int32} {os sc : Int32} (hk : k < 6) : CT E M_X3_keep (d + 1) [.ref 4113, .int (nI (k))] (hp o0 (ar T K os sc) t0 p0 m0 u0 l0) (.inl none) (hp o0 (ar T ((tu K 5 (va_cpy (T 5) (K 5) 0 (k * 11) 11))) os sc) t0 p0 m0 u0 l0) 0 0 := by
  refine CT.of (L := [some (.ref 4113), some (.int (nI (k)))]) rfl rfl ?_
  refine AR.run g_X3_keep_0_2 2 [some (.ref 4113), some (.int (nI (k)))] [.int (nI (k)), .ref 4113] _ [] rfl trivial ?_
  refine AR.callV1 (4113) [.int (nI (k))] [] lk_3_43 dc_X3_keep_2 rfl rfl (s_3hasCopyT5 _ k (by omega)) (by first | rfl | (simp only [nI_add, pk_mul]; first | done | rfl)) rfl ?_
  refine AR.eqN (tgt := 32) (a := 1) dc_X3_keep_5 (by decide) (by first | rfl | (simp only [nI_add, pk_mul]; first | done | rfl)) (by omega) (fun c5_1 => absurd c5_1 (by omega)) (fun c5_1 => ?_)
  refine AR.run g_X3_keep_8_13 29 [some (.ref 4113), some (.int (nI (k)))] [.int (nI (11)), .int ((nI (k)) * (nI (11))), .ref 4115, .int (nI (0)), .ref 4114] _ [] rfl trivial ?_
  refine AR.cast (L' := [some (.ref 4113), some (.int (nI (k)))]) (st' := [.int (nI (11)), .int (nI ((k * 11))), .ref 4115, .int (nI (0)), .ref 4114]) (by first | rfl | (simp only [nI_add, pk_mul]; first | done | rfl)) (by first | rfl | (simp only [nI_add, pk_mul]; first | done | rfl)) rfl ?_
  refine AR.run g_X3_keep_29_1 32 [some (.ref 4113), some (.int (nI (k)))] [] (hp o0 (ar T (tu K 5 (va_cpy (T 5) (K 5) (Int32.toNatClampNeg (nI (0))) (Int32.toNatClampNeg (nI ((k * 11)))) (Int32.toNatClampNeg (nI (11))))) os sc) t0 p0 m0 u0 l0) [¬ (nI (0)) < 0, ¬ (nI ((k * 11))) < 0, ¬ (nI (11)) < 0, (Int32.toNatClampNeg (nI (0))) + (Int32.toNatClampNeg (nI (11))) ≤ 11, (Int32.toNatClampNeg (nI ((k * 11)))) + (Int32.toNatClampNeg (nI (11))) ≤ 66] rfl ⟨nI_pos (by omega), nI_pos (by omega), nI_pos (by omega), (by simp only [nI_clamp (show 0 < 2147483648 by omega), nI_clamp (show 11 < 2147483648 by omega)]; omega), (by unfold ab_all; simp only [nI_clamp (show (k * 11) < 2147483648 by omega), nI_clamp (show 11 < 2147483648 by omega)]; omega)⟩ ?_
  refine AR.cast (h1 := (hp o0 (ar T (tu K 5 (va_cpy (T 5) (K 5) 0 (k * 11) 11)) os sc) t0 p0 m0 u0 l0)) rfl rfl (by simp only [nI_clamp (show 0 < 2147483648 by omega), nI_clamp (show (k * 11) < 2147483648 by omega), nI_clamp (show 11 < 2147483648 by omega)]) ?_
  exact AR.retV dc_X3_keep_32 rfl rfl
