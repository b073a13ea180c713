theorem TI_of {T T' : Nat → Nat → Int32} {nv nc nr ne : Nat} (hT : TI T nv nc nr ne) (h0 : T' 5 0 = T 5 0) (h1 : T' 5 1 = T 5 1) (h2 : T' 5 2 = T 5 2) (h5 : T' 5 5 = T 5 5) (hl : ∀ v, v < 12 → T' 0 (v * 7 + 2) = T 0 (v * 7 + 2)) (hh : ∀ c, c < 4 → QI 12 (T' 2 (c * 5 + 2))) : TI T' nv nc nr ne := by
  obtain ⟨⟨a1, a2⟩, ⟨b1, b2⟩, ⟨c1, c2⟩, ⟨e1, e2⟩, f, -⟩ := hT
  refine ⟨⟨h0.trans a1, a2⟩, ⟨h1.trans b1, b2⟩, ⟨h2.trans c1, c2⟩, ⟨h5.trans e1, e2⟩, fun v hv => ?_, hh⟩
  have e : lt T' v = lt T v := by unfold lt; rw [hl v hv]
  unfold HLv
  rw [e, hl v hv]
  exact f v hv
theorem HLv_of {T T' : Nat → Nat → Int32} {v v' : Nat} (h : T' 0 (v' * 7 + 2) = T 0 (v * 7 + 2)) (hT : HLv T v) : HLv T' v' := by
  have e : lt T' v' = lt T v := by unfold lt; rw [h]
  unfold HLv
  rw [e, h]
  exact hT
def F_0startBringing (v : Nat) (c : Nat) (r : Nat) (T : Nat → Nat → Int32) : Int32 := (F_0startWay v r (tu (tu T 0 (upd (T 0) ((v * 7) + 5) (nI (c)))) 2 (upd (upd (T 2) ((c * 5) + 2) (nI (v))) ((c * 5) + 3) (nI (0)))))
def F_0startBringing_T (v : Nat) (c : Nat) (r : Nat) (ne : Nat) (T : Nat → Nat → Int32) : Nat → Nat → Int32 := (F_0startWay_T v (nI (c)) r ne (tu (tu T 0 (upd (T 0) ((v * 7) + 5) (nI (c)))) 2 (upd (upd (T 2) ((c * 5) + 2) (nI (v))) ((c * 5) + 3) (nI (0)))))
theorem g_X0_startBringing_0_5 : ab_oks M_X0_startBringing [(0, .aload_n 0, 1, 0, 0, 0, .null), (1, .getfield 14, 3, 0, 0, 89, .null), (4, .iload_n 1, 1, 1, 0, 0, .null), (5, .iconst 5, 1, 0, 0, 0, .int (nI (5))), (6, .iload_n 2, 1, 2, 0, 0, .null)] = true := by decide +kernel
theorem dc_X0_startBringing_7 : decode (AM.bytes M_X0_startBringing) 7 = .ok (.invokevirtual 42, 3) := by decide +kernel
theorem g_X0_startBringing_10_5 : ab_oks M_X0_startBringing [(10, .aload_n 0, 1, 0, 0, 0, .null), (11, .getfield 23, 3, 0, 2, 91, .null), (14, .iload_n 2, 1, 2, 0, 0, .null), (15, .iconst 2, 1, 0, 0, 0, .int (nI (2))), (16, .iload_n 1, 1, 1, 0, 0, .null)] = true := by decide +kernel
theorem dc_X0_startBringing_17 : decode (AM.bytes M_X0_startBringing) 17 = .ok (.invokevirtual 42, 3) := by decide +kernel
theorem g_X0_startBringing_20_5 : ab_oks M_X0_startBringing [(20, .aload_n 0, 1, 0, 0, 0, .null), (21, .getfield 23, 3, 0, 2, 91, .null), (24, .iload_n 2, 1, 2, 0, 0, .null), (25, .iconst 3, 1, 0, 0, 0, .int (nI (3))), (26, .iconst 0, 1, 0, 0, 0, .int (nI (0)))] = true := by decide +kernel
theorem dc_X0_startBringing_27 : decode (AM.bytes M_X0_startBringing) 27 = .ok (.invokevirtual 42, 3) := by decide +kernel
theorem g_X0_startBringing_30_4 : ab_oks M_X0_startBringing [(30, .aload_n 0, 1, 0, 0, 0, .null), (31, .iload_n 1, 1, 1, 0, 0, .null), (32, .iload_n 2, 1, 2, 0, 0, .null), (33, .iload_n 3, 1, 3, 0, 0, .null)] = true := by decide +kernel
theorem lk_0_110 : ab_lkV "LeafCradles$Archive" 110 M_X0_startWay 3 [627, 629, 18, 30, 630] = true := by decide +kernel
theorem dc_X0_startBringing_34 : decode (AM.bytes M_X0_startBringing) 34 = .ok (.invokevirtual 110, 3) := by decide +kernel
theorem dc_X0_startBringing_37 : decode (AM.bytes M_X0_startBringing) 37 = .ok (.ireturn, 1) := by decide +kernel
set_option maxRecDepth 100000 in
set_option maxHeartbeats 4000000 in
theorem s_0startBringing {E : AE} (d : Nat) (v : Nat) (c : Nat) (r : Nat) {nv : Nat} {nc : Nat} {nr : Nat} {ne : Nat}  {o0 t0 p0 m0 u0 l0 : List AC} {T K : Nat → Nat → Int32} {os sc : Int32} (hT : TI T nv nc nr ne) (hv : v < nv) (hc : c < 4) (hr : r < 3) (hne60 : ne < 60) : CT E M_X0_startBringing (d + 4) [.ref 4097, .int (nI (v)), .int (nI (c)), .int (nI (r))] (hp o0 (ar T K os sc) t0 p0 m0 u0 l0) (.inl (some (.int (F_0startBringing v c r T)))) (hp o0 (ar (F_0startBringing_T v c r ne T) K os sc) t0 p0 m0 u0 l0) 0 0 := by
  obtain ⟨⟨hnv, h12⟩, ⟨hnc, h4⟩, ⟨hnr, h3⟩, ⟨hne, h60⟩, hLT, hHT⟩ := id hT
  refine CT.of (L := [some (.ref 4097), some (.int (nI (v))), some (.int (nI (c))), some (.int (nI (r)))]) rfl rfl ?_
  refine AR.run g_X0_startBringing_0_5 7 [some (.ref 4097), some (.int (nI (v))), some (.int (nI (c))), some (.int (nI (r)))] [.int (nI (c)), .int (nI (5)), .int (nI (v)), .ref 4098] _ [] rfl trivial ?_
  refine AR.callV0 (4098) [.int (nI (v)), .int (nI (5)), .int (nI (c))] [] lk_0_42 dc_X0_startBringing_7 rfl rfl (s_3putT0 _ v 5 (nI (c)) (by omega) (by omega)) (by first | rfl | (simp only [nI_add, pk_mul]; first | done | rfl)) rfl ?_
  refine AR.cast (h1 := (hp o0 (ar (tu T 0 (upd (T 0) ((v * 7) + 5) (nI (c)))) K os sc) t0 p0 m0 u0 l0)) rfl rfl rfl ?_
  refine AR.run g_X0_startBringing_10_5 17 [some (.ref 4097), some (.int (nI (v))), some (.int (nI (c))), some (.int (nI (r)))] [.int (nI (v)), .int (nI (2)), .int (nI (c)), .ref 4104] _ [] rfl trivial ?_
  refine AR.callV0 (4104) [.int (nI (c)), .int (nI (2)), .int (nI (v))] [] lk_0_42 dc_X0_startBringing_17 rfl rfl (s_3putT2 _ c 2 (nI (v)) (by omega) (by omega)) (by first | rfl | (simp only [nI_add, pk_mul]; first | done | rfl)) rfl ?_
  refine AR.cast (h1 := (hp o0 (ar (tu (tu T 0 (upd (T 0) ((v * 7) + 5) (nI (c)))) 2 (upd (T 2) ((c * 5) + 2) (nI (v)))) K os sc) t0 p0 m0 u0 l0)) rfl rfl rfl ?_
  refine AR.run g_X0_startBringing_20_5 27 [some (.ref 4097), some (.int (nI (v))), some (.int (nI (c))), some (.int (nI (r)))] [.int (nI (0)), .int (nI (3)), .int (nI (c)), .ref 4104] _ [] rfl trivial ?_
  refine AR.callV0 (4104) [.int (nI (c)), .int (nI (3)), .int (nI (0))] [] lk_0_42 dc_X0_startBringing_27 rfl rfl (s_3putT2 _ c 3 (nI (0)) (by omega) (by omega)) (by first | rfl | (simp only [nI_add, pk_mul]; first | done | rfl)) rfl ?_
  refine AR.cast (h1 := (hp o0 (ar (tu (tu T 0 (upd (T 0) ((v * 7) + 5) (nI (c)))) 2 (upd (upd (T 2) ((c * 5) + 2) (nI (v))) ((c * 5) + 3) (nI (0)))) K os sc) t0 p0 m0 u0 l0)) rfl rfl rfl ?_
  refine AR.run g_X0_startBringing_30_4 34 [some (.ref 4097), some (.int (nI (v))), some (.int (nI (c))), some (.int (nI (r)))] [.int (nI (r)), .int (nI (c)), .int (nI (v)), .ref 4097] _ [] rfl trivial ?_
  refine AR.callV1 (4097) [.int (nI (v)), .int (nI (c)), .int (nI (r))] [] lk_0_110 dc_X0_startBringing_34 rfl rfl (s_0startWay _ v (nI (c)) r (TI_of hT rfl rfl rfl rfl (fun v9 h9 => by show upd _ _ _ _ = _; rw [upd_ne (by omega)]) (fun c9 h9 => by show QI 12 (upd (upd _ _ _) _ _ _); rw [upd_ne (by omega)]; unfold upd; split; exact Or.inr ⟨v, by omega, rfl⟩; exact hHT c9 h9)) (by omega) (by omega) (by omega)) (by first | rfl | (simp only [nI_add, pk_mul]; first | done | rfl)) rfl ?_
  have e1_0 : F_0startBringing v c r T = (F_0startWay v r (tu (tu T 0 (upd (T 0) ((v * 7) + 5) (nI (c)))) 2 (upd (upd (T 2) ((c * 5) + 2) (nI (v))) ((c * 5) + 3) (nI (0))))) := by rw [F_0startBringing]
  have e1_1 : F_0startBringing_T v c r ne T = (F_0startWay_T v (nI (c)) r ne (tu (tu T 0 (upd (T 0) ((v * 7) + 5) (nI (c)))) 2 (upd (upd (T 2) ((c * 5) + 2) (nI (v))) ((c * 5) + 3) (nI (0))))) := by rw [F_0startBringing_T]
  exact AR.retI dc_X0_startBringing_37 rfl e1_0.symm (by rw [e1_1])
def F_0startTakingBack (v : Nat) (r : Nat) (c : Nat) (T : Nat → Nat → Int32) : Int32 := (F_0startWay v r (tu (tu T 0 (upd (T 0) ((v * 7) + 5) (-1))) 2 (upd (upd (T 2) ((c * 5) + 2) (-1)) ((c * 5) + 3) (nI (0)))))
def F_0startTakingBack_T (v : Nat) (r : Nat) (ne : Nat) (c : Nat) (T : Nat → Nat → Int32) : Nat → Nat → Int32 := (F_0startWay_T v (-1) r ne (tu (tu T 0 (upd (T 0) ((v * 7) + 5) (-1))) 2 (upd (upd (T 2) ((c * 5) + 2) (-1)) ((c * 5) + 3) (nI (0)))))
theorem g_X0_startTakingBack_0_4 : ab_oks M_X0_startTakingBack [(0, .aload_n 0, 1, 0, 0, 0, .null), (1, .getfield 14, 3, 0, 0, 89, .null), (4, .iload_n 1, 1, 1, 0, 0, .null), (5, .iconst 5, 1, 0, 0, 0, .int (nI (5)))] = true := by decide +kernel
theorem dc_X0_startTakingBack_6 : decode (AM.bytes M_X0_startTakingBack) 6 = .ok (.invokevirtual 45, 3) := by decide +kernel
theorem g_X0_startTakingBack_9_6 : ab_oks M_X0_startTakingBack [(9, .istore_n 3, 1, 3, 0, 0, .null), (10, .aload_n 0, 1, 0, 0, 0, .null), (11, .getfield 14, 3, 0, 0, 89, .null), (14, .iload_n 1, 1, 1, 0, 0, .null), (15, .iconst 5, 1, 0, 0, 0, .int (nI (5))), (16, .iconst (-1), 1, 0, 0, 0, .int (-1))] = true := by decide +kernel
theorem dc_X0_startTakingBack_17 : decode (AM.bytes M_X0_startTakingBack) 17 = .ok (.invokevirtual 42, 3) := by decide +kernel
theorem g_X0_startTakingBack_20_5 : ab_oks M_X0_startTakingBack [(20, .aload_n 0, 1, 0, 0, 0, .null), (21, .getfield 23, 3, 0, 2, 91, .null), (24, .iload_n 3, 1, 3, 0, 0, .null), (25, .iconst 2, 1, 0, 0, 0, .int (nI (2))), (26, .iconst (-1), 1, 0, 0, 0, .int (-1))] = true := by decide +kernel
theorem dc_X0_startTakingBack_27 : decode (AM.bytes M_X0_startTakingBack) 27 = .ok (.invokevirtual 42, 3) := by decide +kernel
theorem g_X0_startTakingBack_30_5 : ab_oks M_X0_startTakingBack [(30, .aload_n 0, 1, 0, 0, 0, .null), (31, .getfield 23, 3, 0, 2, 91, .null), (34, .iload_n 3, 1, 3, 0, 0, .null), (35, .iconst 3, 1, 0, 0, 0, .int (nI (3))), (36, .iconst 0, 1, 0, 0, 0, .int (nI (0)))] = true := by decide +kernel
theorem dc_X0_startTakingBack_37 : decode (AM.bytes M_X0_startTakingBack) 37 = .ok (.invokevirtual 42, 3) := by decide +kernel
theorem g_X0_startTakingBack_40_4 : ab_oks M_X0_startTakingBack [(40, .aload_n 0, 1, 0, 0, 0, .null), (41, .iload_n 1, 1, 1, 0, 0, .null), (42, .iconst (-1), 1, 0, 0, 0, .int (-1)), (43, .iload_n 2, 1, 2, 0, 0, .null)] = true := by decide +kernel
theorem dc_X0_startTakingBack_44 : decode (AM.bytes M_X0_startTakingBack) 44 = .ok (.invokevirtual 110, 3) := by decide +kernel
theorem dc_X0_startTakingBack_47 : decode (AM.bytes M_X0_startTakingBack) 47 = .ok (.ireturn, 1) := by decide +kernel
set_option maxRecDepth 100000 in
set_option maxHeartbeats 4000000 in
theorem s_0startTakingBack {E : AE} (d : Nat) (v : Nat) (r : Nat) {nv : Nat} {nc : Nat} {nr : Nat} {ne : Nat} {c : Nat}  {o0 t0 p0 m0 u0 l0 : List AC} {T K : Nat → Nat → Int32} {os sc : Int32} (hT : TI T nv nc nr ne) (hv : v < nv) (hr : r < 3) (hne60 : ne < 60) (hon : T 0 (v * 7 + 5) = nI c) (hc : c < 4) : CT E M_X0_startTakingBack (d + 4) [.ref 4097, .int (nI (v)), .int (nI (r))] (hp o0 (ar T K os sc) t0 p0 m0 u0 l0) (.inl (some (.int (F_0startTakingBack v r c T)))) (hp o0 (ar (F_0startTakingBack_T v r ne c T) K os sc) t0 p0 m0 u0 l0) 0 0 := by
  obtain ⟨⟨hnv, h12⟩, ⟨hnc, h4⟩, ⟨hnr, h3⟩, ⟨hne, h60⟩, hLT, hHT⟩ := id hT
  refine CT.of (L := [some (.ref 4097), some (.int (nI (v))), some (.int (nI (r))), none]) rfl rfl ?_
  refine AR.run g_X0_startTakingBack_0_4 6 [some (.ref 4097), some (.int (nI (v))), some (.int (nI (r))), none] [.int (nI (5)), .int (nI (v)), .ref 4098] _ [] rfl trivial ?_
  refine AR.callV1 (4098) [.int (nI (v)), .int (nI (5))] [] lk_0_45 dc_X0_startTakingBack_6 rfl rfl (s_3atT0 _ v 5 (by omega) (by omega)) (by first | rfl | (simp only [nI_add, pk_mul]; first | done | rfl)) rfl ?_
  refine AR.top hon ?_
  refine AR.run g_X0_startTakingBack_9_6 17 [some (.ref 4097), some (.int (nI (v))), some (.int (nI (r))), some (.int (nI (c)))] [.int (-1), .int (nI (5)), .int (nI (v)), .ref 4098] _ [] rfl trivial ?_
  refine AR.callV0 (4098) [.int (nI (v)), .int (nI (5)), .int (-1)] [] lk_0_42 dc_X0_startTakingBack_17 rfl rfl (s_3putT0 _ v 5 (-1) (by omega) (by omega)) (by first | rfl | (simp only [nI_add, pk_mul]; first | done | rfl)) rfl ?_
  refine AR.cast (h1 := (hp o0 (ar (tu T 0 (upd (T 0) ((v * 7) + 5) (-1))) K os sc) t0 p0 m0 u0 l0)) rfl rfl rfl ?_
  refine AR.run g_X0_startTakingBack_20_5 27 [some (.ref 4097), some (.int (nI (v))), some (.int (nI (r))), some (.int (nI (c)))] [.int (-1), .int (nI (2)), .int (nI (c)), .ref 4104] _ [] rfl trivial ?_
  refine AR.callV0 (4104) [.int (nI (c)), .int (nI (2)), .int (-1)] [] lk_0_42 dc_X0_startTakingBack_27 rfl rfl (s_3putT2 _ c 2 (-1) (by omega) (by omega)) (by first | rfl | (simp only [nI_add, pk_mul]; first | done | rfl)) rfl ?_
  refine AR.cast (h1 := (hp o0 (ar (tu (tu T 0 (upd (T 0) ((v * 7) + 5) (-1))) 2 (upd (T 2) ((c * 5) + 2) (-1))) K os sc) t0 p0 m0 u0 l0)) rfl rfl rfl ?_
  refine AR.run g_X0_startTakingBack_30_5 37 [some (.ref 4097), some (.int (nI (v))), some (.int (nI (r))), some (.int (nI (c)))] [.int (nI (0)), .int (nI (3)), .int (nI (c)), .ref 4104] _ [] rfl trivial ?_
  refine AR.callV0 (4104) [.int (nI (c)), .int (nI (3)), .int (nI (0))] [] lk_0_42 dc_X0_startTakingBack_37 rfl rfl (s_3putT2 _ c 3 (nI (0)) (by omega) (by omega)) (by first | rfl | (simp only [nI_add, pk_mul]; first | done | rfl)) rfl ?_
  refine AR.cast (h1 := (hp o0 (ar (tu (tu T 0 (upd (T 0) ((v * 7) + 5) (-1))) 2 (upd (upd (T 2) ((c * 5) + 2) (-1)) ((c * 5) + 3) (nI (0)))) K os sc) t0 p0 m0 u0 l0)) rfl rfl rfl ?_
  refine AR.run g_X0_startTakingBack_40_4 44 [some (.ref 4097), some (.int (nI (v))), some (.int (nI (r))), some (.int (nI (c)))] [.int (nI (r)), .int (-1), .int (nI (v)), .ref 4097] _ [] rfl trivial ?_
  refine AR.callV1 (4097) [.int (nI (v)), .int (-1), .int (nI (r))] [] lk_0_110 dc_X0_startTakingBack_44 rfl rfl (s_0startWay _ v (-1) r (TI_of hT rfl rfl rfl rfl (fun v9 h9 => by show upd _ _ _ _ = _; rw [upd_ne (by omega)]) (fun c9 h9 => by show QI 12 (upd (upd _ _ _) _ _ _); rw [upd_ne (by omega)]; unfold upd; split; exact Or.inl rfl; exact hHT c9 h9)) (by omega) (by omega) (by omega)) (by first | rfl | (simp only [nI_add, pk_mul]; first | done | rfl)) rfl ?_
  have e1_0 : F_0startTakingBack v r c T = (F_0startWay v r (tu (tu T 0 (upd (T 0) ((v * 7) + 5) (-1))) 2 (upd (upd (T 2) ((c * 5) + 2) (-1)) ((c * 5) + 3) (nI (0))))) := by rw [F_0startTakingBack]
  have e1_1 : F_0startTakingBack_T v r ne c T = (F_0startWay_T v (-1) r ne (tu (tu T 0 (upd (T 0) ((v * 7) + 5) (-1))) 2 (upd (upd (T 2) ((c * 5) + 2) (-1)) ((c * 5) + 3) (nI (0))))) := by rw [F_0startTakingBack_T]
  exact AR.retI dc_X0_startTakingBack_47 rfl e1_0.symm (by rw [e1_1])
def F_0scan_T (v : Nat) (k : Nat) (T : Nat → Nat → Int32) : Nat → Nat → Int32 := if (((T 0) ((v * 7) + 4)) + (nI (1))) < ((T 5) 9) then (tu (tu T 0 (upd (T 0) ((v * 7) + 4) (((T 0) ((v * 7) + 4)) + (nI (1))))) 1 (upd (upd (T 1) ((v * 120) + ((k * 3) + 0)) (nI (1))) ((v * 120) + ((k * 3) + 1)) (((upd (T 1) ((v * 120) + ((k * 3) + 0)) (nI (1))) ((v * 120) + ((k * 3) + 1))) + (nI (1))))) else (tu (tu T 0 (upd (upd (upd (T 0) ((v * 7) + 4) (((T 0) ((v * 7) + 4)) + (nI (1)))) ((v * 7) + 4) (nI (0))) ((v * 7) + 3) (((upd (upd (T 0) ((v * 7) + 4) (((T 0) ((v * 7) + 4)) + (nI (1)))) ((v * 7) + 4) (nI (0))) ((v * 7) + 3)) + (nI (1))))) 1 (upd (upd (T 1) ((v * 120) + ((k * 3) + 0)) (nI (1))) ((v * 120) + ((k * 3) + 1)) (((upd (T 1) ((v * 120) + ((k * 3) + 0)) (nI (1))) ((v * 120) + ((k * 3) + 1))) + (nI (1)))))
theorem g_X0_scan_0_9 : ab_oks M_X0_scan [(0, .aload_n 0, 1, 0, 0, 0, .null), (1, .getfield 20, 3, 0, 1, 90, .null), (4, .iload_n 1, 1, 1, 0, 0, .null), (5, .iload_n 2, 1, 2, 0, 0, .null), (6, .iconst 3, 1, 0, 0, 0, .int (nI (3))), (7, .imul, 1, 0, 0, 0, .null), (8, .iconst 0, 1, 0, 0, 0, .int (nI (0))), (9, .iadd, 1, 0, 0, 0, .null), (10, .iconst 1, 1, 0, 0, 0, .int (nI (1)))] = true := by decide +kernel
theorem dc_X0_scan_11 : decode (AM.bytes M_X0_scan) 11 = .ok (.invokevirtual 42, 3) := by decide +kernel
theorem g_X0_scan_14_9 : ab_oks M_X0_scan [(14, .aload_n 0, 1, 0, 0, 0, .null), (15, .getfield 20, 3, 0, 1, 90, .null), (18, .iload_n 1, 1, 1, 0, 0, .null), (19, .iload_n 2, 1, 2, 0, 0, .null), (20, .iconst 3, 1, 0, 0, 0, .int (nI (3))), (21, .imul, 1, 0, 0, 0, .null), (22, .iconst 1, 1, 0, 0, 0, .int (nI (1))), (23, .iadd, 1, 0, 0, 0, .null), (24, .iconst 1, 1, 0, 0, 0, .int (nI (1)))] = true := by decide +kernel
theorem dc_X0_scan_25 : decode (AM.bytes M_X0_scan) 25 = .ok (.invokevirtual 60, 3) := by decide +kernel
theorem g_X0_scan_28_5 : ab_oks M_X0_scan [(28, .aload_n 0, 1, 0, 0, 0, .null), (29, .getfield 14, 3, 0, 0, 89, .null), (32, .iload_n 1, 1, 1, 0, 0, .null), (33, .iconst 4, 1, 0, 0, 0, .int (nI (4))), (34, .iconst 1, 1, 0, 0, 0, .int (nI (1)))] = true := by decide +kernel
theorem dc_X0_scan_35 : decode (AM.bytes M_X0_scan) 35 = .ok (.invokevirtual 60, 3) := by decide +kernel
theorem g_X0_scan_38_4 : ab_oks M_X0_scan [(38, .aload_n 0, 1, 0, 0, 0, .null), (39, .getfield 14, 3, 0, 0, 89, .null), (42, .iload_n 1, 1, 1, 0, 0, .null), (43, .iconst 4, 1, 0, 0, 0, .int (nI (4)))] = true := by decide +kernel
theorem dc_X0_scan_44 : decode (AM.bytes M_X0_scan) 44 = .ok (.invokevirtual 45, 3) := by decide +kernel
theorem g_X0_scan_47_4 : ab_oks M_X0_scan [(47, .aload_n 0, 1, 0, 0, 0, .null), (48, .getfield 32, 3, 0, 5, 94, .null), (51, .iconst 0, 1, 0, 0, 0, .int (nI (0))), (52, .bipush 9, 2, 0, 0, 0, .int (nI (9)))] = true := by decide +kernel
theorem dc_X0_scan_54 : decode (AM.bytes M_X0_scan) 54 = .ok (.invokevirtual 45, 3) := by decide +kernel
theorem dc_X0_scan_57 : decode (AM.bytes M_X0_scan) 57 = .ok (.if_icmp .lt 23, 3) := by decide +kernel
theorem dc_X0_scan_80 : decode (AM.bytes M_X0_scan) 80 = .ok (.return_, 1) := by decide +kernel
theorem g_X0_scan_60_5 : ab_oks M_X0_scan [(60, .aload_n 0, 1, 0, 0, 0, .null), (61, .getfield 14, 3, 0, 0, 89, .null), (64, .iload_n 1, 1, 1, 0, 0, .null), (65, .iconst 4, 1, 0, 0, 0, .int (nI (4))), (66, .iconst 0, 1, 0, 0, 0, .int (nI (0)))] = true := by decide +kernel
theorem dc_X0_scan_67 : decode (AM.bytes M_X0_scan) 67 = .ok (.invokevirtual 42, 3) := by decide +kernel
theorem g_X0_scan_70_5 : ab_oks M_X0_scan [(70, .aload_n 0, 1, 0, 0, 0, .null), (71, .getfield 14, 3, 0, 0, 89, .null), (74, .iload_n 1, 1, 1, 0, 0, .null), (75, .iconst 3, 1, 0, 0, 0, .int (nI (3))), (76, .iconst 1, 1, 0, 0, 0, .int (nI (1)))] = true := by decide +kernel
theorem dc_X0_scan_77 : decode (AM.bytes M_X0_scan) 77 = .ok (.invokevirtual 60, 3) := by decide +kernel
set_option maxRecDepth 100000 in
set_option maxHeartbeats 4000000 in
theorem s_0scan {E : AE} (d : Nat) (v : Nat) (k : Nat)  {o0 t0 p0 m0 u0 l0 : List AC} {T K : Nat → Nat → Int32} {os sc : Int32} (hv : v < 13) (hk : k < 40) : CT E M_X0_scan (d + 1) [.ref 4097, .int (nI (v)), .int (nI (k))] (hp o0 (ar T K os sc) t0 p0 m0 u0 l0) (.inl none) (hp o0 (ar (F_0scan_T v k T) K os sc) t0 p0 m0 u0 l0) 0 0 := by
  refine CT.of (L := [some (.ref 4097), some (.int (nI (v))), some (.int (nI (k)))]) rfl rfl ?_
  refine AR.run g_X0_scan_0_9 11 [some (.ref 4097), some (.int (nI (v))), some (.int (nI (k)))] [.int (nI (1)), .int (((nI (k)) * (nI (3))) + (nI (0))), .int (nI (v)), .ref 4101] _ [] rfl trivial ?_
  refine AR.callV0 (4101) [.int (nI (v)), .int (nI (((k * 3) + 0))), .int (nI (1))] [] lk_0_42 dc_X0_scan_11 rfl rfl (s_3putT1 _ v ((k * 3) + 0) (nI (1)) (by omega) (by omega)) (by first | rfl | (simp only [nI_add, pk_mul]; first | done | rfl)) rfl ?_
  refine AR.cast (h1 := (hp o0 (ar (tu T 1 (upd (T 1) ((v * 120) + ((k * 3) + 0)) (nI (1)))) K os sc) t0 p0 m0 u0 l0)) rfl rfl rfl ?_
  refine AR.run g_X0_scan_14_9 25 [some (.ref 4097), some (.int (nI (v))), some (.int (nI (k)))] [.int (nI (1)), .int (((nI (k)) * (nI (3))) + (nI (1))), .int (nI (v)), .ref 4101] _ [] rfl trivial ?_
  refine AR.callV0 (4101) [.int (nI (v)), .int (nI (((k * 3) + 1))), .int (nI (1))] [] lk_0_60 dc_X0_scan_25 rfl rfl (s_3addT1 _ v ((k * 3) + 1) (nI (1)) (by omega) (by omega)) (by first | rfl | (simp only [nI_add, pk_mul]; first | done | rfl)) rfl ?_
  refine AR.cast (h1 := (hp o0 (ar (tu T 1 (upd (upd (T 1) ((v * 120) + ((k * 3) + 0)) (nI (1))) ((v * 120) + ((k * 3) + 1)) (((upd (T 1) ((v * 120) + ((k * 3) + 0)) (nI (1))) ((v * 120) + ((k * 3) + 1))) + (nI (1))))) K os sc) t0 p0 m0 u0 l0)) rfl rfl rfl ?_
  refine AR.run g_X0_scan_28_5 35 [some (.ref 4097), some (.int (nI (v))), some (.int (nI (k)))] [.int (nI (1)), .int (nI (4)), .int (nI (v)), .ref 4098] _ [] rfl trivial ?_
  refine AR.callV0 (4098) [.int (nI (v)), .int (nI (4)), .int (nI (1))] [] lk_0_60 dc_X0_scan_35 rfl rfl (s_3addT0 _ v 4 (nI (1)) (by omega) (by omega)) (by first | rfl | (simp only [nI_add, pk_mul]; first | done | rfl)) rfl ?_
  refine AR.cast (h1 := (hp o0 (ar (tu (tu T 0 (upd (T 0) ((v * 7) + 4) (((T 0) ((v * 7) + 4)) + (nI (1))))) 1 (upd (upd (T 1) ((v * 120) + ((k * 3) + 0)) (nI (1))) ((v * 120) + ((k * 3) + 1)) (((upd (T 1) ((v * 120) + ((k * 3) + 0)) (nI (1))) ((v * 120) + ((k * 3) + 1))) + (nI (1))))) K os sc) t0 p0 m0 u0 l0)) rfl rfl rfl ?_
  refine AR.run g_X0_scan_38_4 44 [some (.ref 4097), some (.int (nI (v))), some (.int (nI (k)))] [.int (nI (4)), .int (nI (v)), .ref 4098] _ [] rfl trivial ?_
  refine AR.callV1 (4098) [.int (nI (v)), .int (nI (4))] [] lk_0_45 dc_X0_scan_44 rfl rfl (s_3atT0 _ v 4 (by omega) (by omega)) (by first | rfl | (simp only [nI_add, pk_mul]; first | done | rfl)) rfl ?_
  refine AR.top (y := ((T 0) ((v * 7) + 4)) + (nI (1))) (by show (upd (T 0) ((v * 7) + 4) (((T 0) ((v * 7) + 4)) + (nI (1)))) (v * 7 + 4) = _; rw [ru (by omega)]) ?_
  refine AR.run g_X0_scan_47_4 54 [some (.ref 4097), some (.int (nI (v))), some (.int (nI (k)))] [.int (nI (9)), .int (nI (0)), .ref 4113, .int (((T 0) ((v * 7) + 4)) + (nI (1)))] _ [] rfl trivial ?_
  refine AR.callV1 (4113) [.int (nI (0)), .int (nI (9))] [.int (((T 0) ((v * 7) + 4)) + (nI (1)))] lk_0_45 dc_X0_scan_54 rfl rfl (s_3atT5 _ 9 (by omega)) (by first | rfl | (simp only [nI_add, pk_mul]; first | done | rfl)) rfl ?_
  refine AR.top (y := (T 5) 9) rfl ?_
  refine AR.lt2 (tgt := 80) dc_X0_scan_57 (by decide) (fun c57_1 => ?_) (fun c57_1 => ?_)
  · have e2_0 : F_0scan_T v k T = (tu (tu T 0 (upd (T 0) ((v * 7) + 4) (((T 0) ((v * 7) + 4)) + (nI (1))))) 1 (upd (upd (T 1) ((v * 120) + ((k * 3) + 0)) (nI (1))) ((v * 120) + ((k * 3) + 1)) (((upd (T 1) ((v * 120) + ((k * 3) + 0)) (nI (1))) ((v * 120) + ((k * 3) + 1))) + (nI (1))))) := by rw [F_0scan_T, if_pos c57_1]
    exact AR.retV dc_X0_scan_80 rfl (by rw [e2_0])
  · refine AR.run g_X0_scan_60_5 67 [some (.ref 4097), some (.int (nI (v))), some (.int (nI (k)))] [.int (nI (0)), .int (nI (4)), .int (nI (v)), .ref 4098] _ [] rfl trivial ?_
    refine AR.callV0 (4098) [.int (nI (v)), .int (nI (4)), .int (nI (0))] [] lk_0_42 dc_X0_scan_67 rfl rfl (s_3putT0 _ v 4 (nI (0)) (by omega) (by omega)) (by first | rfl | (simp only [nI_add, pk_mul]; first | done | rfl)) rfl ?_
    refine AR.cast (h1 := (hp o0 (ar (tu (tu T 0 (upd (upd (T 0) ((v * 7) + 4) (((T 0) ((v * 7) + 4)) + (nI (1)))) ((v * 7) + 4) (nI (0)))) 1 (upd (upd (T 1) ((v * 120) + ((k * 3) + 0)) (nI (1))) ((v * 120) + ((k * 3) + 1)) (((upd (T 1) ((v * 120) + ((k * 3) + 0)) (nI (1))) ((v * 120) + ((k * 3) + 1))) + (nI (1))))) K os sc) t0 p0 m0 u0 l0)) rfl rfl rfl ?_
    refine AR.run g_X0_scan_70_5 77 [some (.ref 4097), some (.int (nI (v))), some (.int (nI (k)))] [.int (nI (1)), .int (nI (3)), .int (nI (v)), .ref 4098] _ [] rfl trivial ?_
    refine AR.callV0 (4098) [.int (nI (v)), .int (nI (3)), .int (nI (1))] [] lk_0_60 dc_X0_scan_77 rfl rfl (s_3addT0 _ v 3 (nI (1)) (by omega) (by omega)) (by first | rfl | (simp only [nI_add, pk_mul]; first | done | rfl)) rfl ?_
    refine AR.cast (h1 := (hp o0 (ar (tu (tu T 0 (upd (upd (upd (T 0) ((v * 7) + 4) (((T 0) ((v * 7) + 4)) + (nI (1)))) ((v * 7) + 4) (nI (0))) ((v * 7) + 3) (((upd (upd (T 0) ((v * 7) + 4) (((T 0) ((v * 7) + 4)) + (nI (1)))) ((v * 7) + 4) (nI (0))) ((v * 7) + 3)) + (nI (1))))) 1 (upd (upd (T 1) ((v * 120) + ((k * 3) + 0)) (nI (1))) ((v * 120) + ((k * 3) + 1)) (((upd (T 1) ((v * 120) + ((k * 3) + 0)) (nI (1))) ((v * 120) + ((k * 3) + 1))) + (nI (1))))) K os sc) t0 p0 m0 u0 l0)) rfl rfl rfl ?_
    have e3_0 : F_0scan_T v k T = (tu (tu T 0 (upd (upd (upd (T 0) ((v * 7) + 4) (((T 0) ((v * 7) + 4)) + (nI (1)))) ((v * 7) + 4) (nI (0))) ((v * 7) + 3) (((upd (upd (T 0) ((v * 7) + 4) (((T 0) ((v * 7) + 4)) + (nI (1)))) ((v * 7) + 4) (nI (0))) ((v * 7) + 3)) + (nI (1))))) 1 (upd (upd (T 1) ((v * 120) + ((k * 3) + 0)) (nI (1))) ((v * 120) + ((k * 3) + 1)) (((upd (T 1) ((v * 120) + ((k * 3) + 0)) (nI (1))) ((v * 120) + ((k * 3) + 1))) + (nI (1))))) := by rw [F_0scan_T, if_neg c57_1]
    exact AR.retV dc_X0_scan_80 rfl (by rw [e3_0])
theorem nl_QI {T : Nat → Nat → Int32} {v : Nat} : ∀ (f j : Nat) (x : Int32), j + f ≤ 40 → QI 40 x → QI 40 (W_0nextLeaf_4 v T f j x)
  | 0, j, x, _, h => h
  | f + 1, j, x, hj, h => by
    unfold W_0nextLeaf_4
    split
    · exact Or.inr ⟨j, by omega, rfl⟩
    · split
      · split
        · exact nl_QI f (j + 1) _ (by omega) (Or.inr ⟨j, by omega, rfl⟩)
        · exact nl_QI f (j + 1) _ (by omega) h
      · exact nl_QI f (j + 1) _ (by omega) h
theorem nl_QI0 {T : Nat → Nat → Int32} {v : Nat} (h : HLv T v) : QI 40 (F_0nextLeaf v T) := nl_QI (lt T v) 0 (-1) (by have := h.2; omega) (Or.inl rfl)
theorem HLv_scan {T : Nat → Nat → Int32} {v k : Nat} (h : HLv T v) : HLv (F_0scan_T v k T) v := by
  refine HLv_of (T := T) ?_ h
  unfold F_0scan_T
  split
  · show upd _ _ _ _ = _
    rw [upd_ne (by omega)]
  · show upd (upd (upd _ _ _) _ _) _ _ _ = _
    rw [upd_ne (by omega), upd_ne (by omega), upd_ne (by omega)]
def W_0workFor_6 (c : Nat) (v : Nat) (m : Int32) : Nat → Nat → (Int32) → (Nat → Nat → Int32) → (Int32) × (Nat → Nat → Int32)
  | 0, j6, x6_4, y6_T => (x6_4, y6_T)
  | f6 + 1, j6, x6_4, y6_T => if m ≤ x6_4 then (x6_4, y6_T) else if (F_0nextLeaf v y6_T) = (-1) then (x6_4, y6_T) else if (F_0isGentleEnough c v y6_T) = 0 then (x6_4, y6_T) else if (if (nI (1)) < ((((y6_T 5) 7) + (((y6_T 5) 8) * ((y6_T 0) (v * 7 + 3)))) - ((y6_T 2) (c * 5 + 3))) then ((((y6_T 5) 7) + (((y6_T 5) 8) * ((y6_T 0) (v * 7 + 3)))) - ((y6_T 2) (c * 5 + 3))) else (nI (1))) ≤ (m - x6_4) then W_0workFor_6 c v m f6 (j6 + 1) (x6_4 + (if (nI (1)) < ((((y6_T 5) 7) + (((y6_T 5) 8) * ((y6_T 0) (v * 7 + 3)))) - ((y6_T 2) (c * 5 + 3))) then ((((y6_T 5) 7) + (((y6_T 5) 8) * ((y6_T 0) (v * 7 + 3)))) - ((y6_T 2) (c * 5 + 3))) else (nI (1)))) (F_0scan_T v ((F_0nextLeaf v y6_T).toNatClampNeg) (tu y6_T 2 (upd (upd (y6_T 2) ((c * 5) + 3) (nI (0))) ((c * 5) + 4) (((upd (y6_T 2) ((c * 5) + 3) (nI (0))) ((c * 5) + 4)) + (nI (1)))))) else (m, tu y6_T 2 (upd (y6_T 2) ((c * 5) + 3) (((y6_T 2) ((c * 5) + 3)) + (m - x6_4))))
def F_0workFor (c : Nat) (v : Nat) (m : Int32) (T : Nat → Nat → Int32) : Int32 := ((W_0workFor_6 c v m 40 0 (nI (0)) T).1)
def F_0workFor_T (c : Nat) (v : Nat) (m : Int32) (T : Nat → Nat → Int32) : Nat → Nat → Int32 := ((W_0workFor_6 c v m 40 0 (nI (0)) T).2)
theorem g_X0_workFor_0_4 : ab_oks M_X0_workFor [(0, .iconst 0, 1, 0, 0, 0, .int (nI (0))), (1, .istore 4, 2, 4, 0, 0, .null), (3, .iconst 0, 1, 0, 0, 0, .int (nI (0))), (4, .istore 5, 2, 5, 0, 0, .null)] = true := by decide +kernel
theorem g_X0_workFor_6_2 : ab_oks M_X0_workFor [(6, .iload 5, 2, 5, 0, 0, .null), (8, .bipush 40, 2, 0, 0, 0, .int (nI (40)))] = true := by decide +kernel
theorem dc_X0_workFor_10 : decode (AM.bytes M_X0_workFor) 10 = .ok (.if_icmp .ge 141, 3) := by decide +kernel
theorem g_X0_workFor_151_1 : ab_oks M_X0_workFor [(151, .iload 4, 2, 4, 0, 0, .null)] = true := by decide +kernel
theorem dc_X0_workFor_153 : decode (AM.bytes M_X0_workFor) 153 = .ok (.ireturn, 1) := by decide +kernel
theorem g_X0_workFor_13_2 : ab_oks M_X0_workFor [(13, .iload 4, 2, 4, 0, 0, .null), (15, .iload_n 3, 1, 3, 0, 0, .null)] = true := by decide +kernel
theorem dc_X0_workFor_16 : decode (AM.bytes M_X0_workFor) 16 = .ok (.if_icmp .ge 135, 3) := by decide +kernel
theorem g_X0_workFor_19_2 : ab_oks M_X0_workFor [(19, .aload_n 0, 1, 0, 0, 0, .null), (20, .iload_n 2, 1, 2, 0, 0, .null)] = true := by decide +kernel
theorem dc_X0_workFor_21 : decode (AM.bytes M_X0_workFor) 21 = .ok (.invokevirtual 69, 3) := by decide +kernel
theorem g_X0_workFor_24_3 : ab_oks M_X0_workFor [(24, .istore 6, 2, 6, 0, 0, .null), (26, .iload 6, 2, 6, 0, 0, .null), (28, .iconst (-1), 1, 0, 0, 0, .int (-1))] = true := by decide +kernel
theorem dc_X0_workFor_29 : decode (AM.bytes M_X0_workFor) 29 = .ok (.if_icmp .eq 12, 3) := by decide +kernel
theorem g_X0_workFor_41_1 : ab_oks M_X0_workFor [(41, .iload 4, 2, 4, 0, 0, .null)] = true := by decide +kernel
theorem dc_X0_workFor_43 : decode (AM.bytes M_X0_workFor) 43 = .ok (.ireturn, 1) := by decide +kernel
theorem g_X0_workFor_32_3 : ab_oks M_X0_workFor [(32, .aload_n 0, 1, 0, 0, 0, .null), (33, .iload_n 1, 1, 1, 0, 0, .null), (34, .iload_n 2, 1, 2, 0, 0, .null)] = true := by decide +kernel
theorem dc_X0_workFor_35 : decode (AM.bytes M_X0_workFor) 35 = .ok (.invokevirtual 96, 3) := by decide +kernel
theorem dc_X0_workFor_38 : decode (AM.bytes M_X0_workFor) 38 = .ok (.ifCond .ne 6, 3) := by decide +kernel
theorem g_X0_workFor_44_2 : ab_oks M_X0_workFor [(44, .aload_n 0, 1, 0, 0, 0, .null), (45, .bipush 7, 2, 0, 0, 0, .int (nI (7)))] = true := by decide +kernel
theorem dc_X0_workFor_47 : decode (AM.bytes M_X0_workFor) 47 = .ok (.invokevirtual 56, 3) := by decide +kernel
theorem g_X0_workFor_50_2 : ab_oks M_X0_workFor [(50, .aload_n 0, 1, 0, 0, 0, .null), (51, .bipush 8, 2, 0, 0, 0, .int (nI (8)))] = true := by decide +kernel
theorem dc_X0_workFor_53 : decode (AM.bytes M_X0_workFor) 53 = .ok (.invokevirtual 56, 3) := by decide +kernel
theorem g_X0_workFor_56_4 : ab_oks M_X0_workFor [(56, .aload_n 0, 1, 0, 0, 0, .null), (57, .getfield 14, 3, 0, 0, 89, .null), (60, .iload_n 2, 1, 2, 0, 0, .null), (61, .iconst 3, 1, 0, 0, 0, .int (nI (3)))] = true := by decide +kernel
theorem dc_X0_workFor_62 : decode (AM.bytes M_X0_workFor) 62 = .ok (.invokevirtual 45, 3) := by decide +kernel
theorem g_X0_workFor_65_9 : ab_oks M_X0_workFor [(65, .imul, 1, 0, 0, 0, .null), (66, .iadd, 1, 0, 0, 0, .null), (67, .istore 7, 2, 7, 0, 0, .null), (69, .iconst 1, 1, 0, 0, 0, .int (nI (1))), (70, .iload 7, 2, 7, 0, 0, .null), (72, .aload_n 0, 1, 0, 0, 0, .null), (73, .getfield 23, 3, 0, 2, 91, .null), (76, .iload_n 1, 1, 1, 0, 0, .null), (77, .iconst 3, 1, 0, 0, 0, .int (nI (3)))] = true := by decide +kernel
theorem dc_X0_workFor_78 : decode (AM.bytes M_X0_workFor) 78 = .ok (.invokevirtual 45, 3) := by decide +kernel
theorem g_X0_workFor_81_7 : ab_oks M_X0_workFor [(81, .isub, 1, 0, 0, 0, .null), (82, .invokestatic 117, 3, 1, 0, 463, .null), (85, .istore 8, 2, 8, 0, 0, .null), (87, .iload 8, 2, 8, 0, 0, .null), (89, .iload_n 3, 1, 3, 0, 0, .null), (90, .iload 4, 2, 4, 0, 0, .null), (92, .isub, 1, 0, 0, 0, .null)] = true := by decide +kernel
theorem dc_X0_workFor_93 : decode (AM.bytes M_X0_workFor) 93 = .ok (.if_icmp .le 18, 3) := by decide +kernel
theorem g_X0_workFor_111_9 : ab_oks M_X0_workFor [(111, .iload 4, 2, 4, 0, 0, .null), (113, .iload 8, 2, 8, 0, 0, .null), (115, .iadd, 1, 0, 0, 0, .null), (116, .istore 4, 2, 4, 0, 0, .null), (118, .aload_n 0, 1, 0, 0, 0, .null), (119, .getfield 23, 3, 0, 2, 91, .null), (122, .iload_n 1, 1, 1, 0, 0, .null), (123, .iconst 3, 1, 0, 0, 0, .int (nI (3))), (124, .iconst 0, 1, 0, 0, 0, .int (nI (0)))] = true := by decide +kernel
theorem dc_X0_workFor_125 : decode (AM.bytes M_X0_workFor) 125 = .ok (.invokevirtual 42, 3) := by decide +kernel
theorem g_X0_workFor_128_5 : ab_oks M_X0_workFor [(128, .aload_n 0, 1, 0, 0, 0, .null), (129, .getfield 23, 3, 0, 2, 91, .null), (132, .iload_n 1, 1, 1, 0, 0, .null), (133, .iconst 4, 1, 0, 0, 0, .int (nI (4))), (134, .iconst 1, 1, 0, 0, 0, .int (nI (1)))] = true := by decide +kernel
theorem dc_X0_workFor_135 : decode (AM.bytes M_X0_workFor) 135 = .ok (.invokevirtual 60, 3) := by decide +kernel
theorem g_X0_workFor_138_3 : ab_oks M_X0_workFor [(138, .aload_n 0, 1, 0, 0, 0, .null), (139, .iload_n 2, 1, 2, 0, 0, .null), (140, .iload 6, 2, 6, 0, 0, .null)] = true := by decide +kernel
theorem lk_0_120 : ab_lkV "LeafCradles$Archive" 120 M_X0_scan 2 [468, 470, 14, 30, 471] = true := by decide +kernel
theorem dc_X0_workFor_142 : decode (AM.bytes M_X0_workFor) 142 = .ok (.invokevirtual 120, 3) := by decide +kernel
theorem g_X0_workFor_145_2 : ab_oks M_X0_workFor [(145, .iinc 5 1, 3, 5, 0, 0, .int (nI (1))), (148, .goto (-142), 3, 6, 0, 0, .null)] = true := by decide +kernel
theorem g_X0_workFor_96_7 : ab_oks M_X0_workFor [(96, .aload_n 0, 1, 0, 0, 0, .null), (97, .getfield 23, 3, 0, 2, 91, .null), (100, .iload_n 1, 1, 1, 0, 0, .null), (101, .iconst 3, 1, 0, 0, 0, .int (nI (3))), (102, .iload_n 3, 1, 3, 0, 0, .null), (103, .iload 4, 2, 4, 0, 0, .null), (105, .isub, 1, 0, 0, 0, .null)] = true := by decide +kernel
theorem dc_X0_workFor_106 : decode (AM.bytes M_X0_workFor) 106 = .ok (.invokevirtual 60, 3) := by decide +kernel
theorem g_X0_workFor_109_1 : ab_oks M_X0_workFor [(109, .iload_n 3, 1, 3, 0, 0, .null)] = true := by decide +kernel
theorem dc_X0_workFor_110 : decode (AM.bytes M_X0_workFor) 110 = .ok (.ireturn, 1) := by decide +kernel
set_option maxRecDepth 100000 in
set_option maxHeartbeats 4000000 in
theorem s_0workFor {E : AE} (d : Nat) (c : Nat) (v : Nat) (m : Int32)  {o0 t0 p0 m0 u0 l0 : List AC} {T K : Nat → Nat → Int32} {os sc : Int32} (hc : c < 5) (hv : v < 13) (hH : HLv T v) : CT E M_X0_workFor (d + 2) [.ref 4097, .int (nI (c)), .int (nI (v)), .int (m)] (hp o0 (ar T K os sc) t0 p0 m0 u0 l0) (.inl (some (.int (F_0workFor c v m T)))) (hp o0 (ar (F_0workFor_T c v m T) K os sc) t0 p0 m0 u0 l0) 0 0 := by
  refine CT.of (L := [some (.ref 4097), some (.int (nI (c))), some (.int (nI (v))), some (.int (m)), none, none, none, none, none]) rfl rfl ?_
  refine AR.run g_X0_workFor_0_4 6 [some (.ref 4097), some (.int (nI (c))), some (.int (nI (v))), some (.int (m)), some (.int (nI (0))), some (.int (nI (0))), none, none, none] [] _ [] rfl trivial ?_
  have hW : ∀ (f6 j6 : Nat) (x6_4 : Int32) (y6_T : Nat → Nat → Int32), j6 + f6 = 40 → HLv y6_T v → AR E M_X0_workFor (d + 2) 6 [some (.ref 4097), some (.int (nI (c))), some (.int (nI (v))), some (.int (m)), some (.int (x6_4)), some (.int (nI (j6))), none, none, none] [] (hp o0 (ar y6_T K os sc) t0 p0 m0 u0 l0) (.inl (some (.int ((W_0workFor_6 c v m f6 j6 x6_4 y6_T).1)))) (hp o0 (ar ((W_0workFor_6 c v m f6 j6 x6_4 y6_T).2) K os sc) t0 p0 m0 u0 l0) 0 0 := by
    intro f6
    induction f6 with
    | zero => 
      intro j6 x6_4 y6_T hj6 hI6
      obtain ⟨htl6, htl640⟩ := id hI6
      have hQ6 := nl_QI0 hI6
      refine AR.run g_X0_workFor_6_2 10 [some (.ref 4097), some (.int (nI (c))), some (.int (nI (v))), some (.int (m)), some (.int (x6_4)), some (.int (nI (j6))), none, none, none] [.int (nI (40)), .int (nI (j6))] _ [] rfl trivial ?_
      refine AR.ge2N (tgt := 151) (a := j6) (b := 40) dc_X0_workFor_10 (by decide) (by first | rfl | (simp only [nI_add, pk_mul]; first | done | rfl)) (by first | rfl | (simp only [nI_add, pk_mul]; first | done | rfl)) (by omega) (by omega) (fun c10_1 => ?_) (fun c10_1 => absurd c10_1 (by omega))
      refine AR.run g_X0_workFor_151_1 153 [some (.ref 4097), some (.int (nI (c))), some (.int (nI (v))), some (.int (m)), some (.int (x6_4)), some (.int (nI (j6))), none, none, none] [.int (x6_4)] _ [] rfl trivial ?_
      have e2 : W_0workFor_6 c v m 0 j6 x6_4 y6_T = (x6_4, y6_T) := by rw [W_0workFor_6]
      rw [e2]
      exact AR.retI dc_X0_workFor_153 rfl rfl rfl
    | succ f6 ih6 => 
      intro j6 x6_4 y6_T hj6 hI6
      obtain ⟨htl6, htl640⟩ := id hI6
      have hQ6 := nl_QI0 hI6
      refine AR.run g_X0_workFor_6_2 10 [some (.ref 4097), some (.int (nI (c))), some (.int (nI (v))), some (.int (m)), some (.int (x6_4)), some (.int (nI (j6))), none, none, none] [.int (nI (40)), .int (nI (j6))] _ [] rfl trivial ?_
      refine AR.ge2N (tgt := 151) (a := j6) (b := 40) dc_X0_workFor_10 (by decide) (by first | rfl | (simp only [nI_add, pk_mul]; first | done | rfl)) (by first | rfl | (simp only [nI_add, pk_mul]; first | done | rfl)) (by omega) (by omega) (fun c10_3 => absurd c10_3 (by omega)) (fun c10_3 => ?_)
      refine AR.run g_X0_workFor_13_2 16 [some (.ref 4097), some (.int (nI (c))), some (.int (nI (v))), some (.int (m)), some (.int (x6_4)), some (.int (nI (j6))), none, none, none] [.int (m), .int (x6_4)] _ [] rfl trivial ?_
      refine AR.ge2 (tgt := 151) dc_X0_workFor_16 (by decide) (fun c16_4 => ?_) (fun c16_4 => ?_)
      · refine AR.run g_X0_workFor_151_1 153 [some (.ref 4097), some (.int (nI (c))), some (.int (nI (v))), some (.int (m)), some (.int (x6_4)), some (.int (nI (j6))), none, none, none] [.int (x6_4)] _ [] rfl trivial ?_
        have e5 : W_0workFor_6 c v m (f6 + 1) j6 x6_4 y6_T = (x6_4, y6_T) := by rw [W_0workFor_6, if_pos c16_4]
        rw [e5]
        exact AR.retI dc_X0_workFor_153 rfl rfl rfl
      · refine AR.run g_X0_workFor_19_2 21 [some (.ref 4097), some (.int (nI (c))), some (.int (nI (v))), some (.int (m)), some (.int (x6_4)), some (.int (nI (j6))), none, none, none] [.int (nI (v)), .ref 4097] _ [] rfl trivial ?_
        refine AR.callV1 (4097) [.int (nI (v))] [] lk_0_69 dc_X0_workFor_21 rfl rfl (s_0nextLeaf _ v (by omega) (by first | assumption | exact (hLT v (by omega)).1) (by first | assumption | exact (hLT v (by omega)).2)) (by first | rfl | (simp only [nI_add, pk_mul]; first | done | rfl)) rfl ?_
        refine AR.run g_X0_workFor_24_3 29 [some (.ref 4097), some (.int (nI (c))), some (.int (nI (v))), some (.int (m)), some (.int (x6_4)), some (.int (nI (j6))), some (.int (F_0nextLeaf v y6_T)), none, none] [.int (-1), .int (F_0nextLeaf v y6_T)] _ [] rfl trivial ?_
        refine AR.eq2 (tgt := 41) dc_X0_workFor_29 (by decide) (fun c29_6 => ?_) (fun c29_6 => ?_)
        · refine AR.run g_X0_workFor_41_1 43 [some (.ref 4097), some (.int (nI (c))), some (.int (nI (v))), some (.int (m)), some (.int (x6_4)), some (.int (nI (j6))), some (.int (F_0nextLeaf v y6_T)), none, none] [.int (x6_4)] _ [] rfl trivial ?_
          have e7 : W_0workFor_6 c v m (f6 + 1) j6 x6_4 y6_T = (x6_4, y6_T) := by rw [W_0workFor_6, if_neg c16_4, if_pos c29_6]
          rw [e7]
          exact AR.retI dc_X0_workFor_43 rfl rfl rfl
        · obtain ⟨hx9, hy9⟩ := QI_get (by omega) hQ6 (by assumption)
          refine AR.cast (L' := [some (.ref 4097), some (.int (nI (c))), some (.int (nI (v))), some (.int (m)), some (.int (x6_4)), some (.int (nI (j6))), some (.int (nI ((F_0nextLeaf v y6_T).toNatClampNeg))), none, none]) (by rw [← hx9]) rfl rfl ?_
          refine AR.run g_X0_workFor_32_3 35 [some (.ref 4097), some (.int (nI (c))), some (.int (nI (v))), some (.int (m)), some (.int (x6_4)), some (.int (nI (j6))), some (.int (nI ((F_0nextLeaf v y6_T).toNatClampNeg))), none, none] [.int (nI (v)), .int (nI (c)), .ref 4097] _ [] rfl trivial ?_
          refine AR.callV1 (4097) [.int (nI (c)), .int (nI (v))] [] lk_0_96 dc_X0_workFor_35 rfl rfl (s_0isGentleEnough _ c v (by omega) (by omega)) (by first | rfl | (simp only [nI_add, pk_mul]; first | done | rfl)) rfl ?_
          refine AR.ne (tgt := 44) dc_X0_workFor_38 (by decide) (fun c38_8 => ?_) (fun c38_8 => ?_)
          · refine AR.run g_X0_workFor_44_2 47 [some (.ref 4097), some (.int (nI (c))), some (.int (nI (v))), some (.int (m)), some (.int (x6_4)), some (.int (nI (j6))), some (.int (nI ((F_0nextLeaf v y6_T).toNatClampNeg))), none, none] [.int (nI (7)), .ref 4097] _ [] rfl trivial ?_
            refine AR.callV1 (4097) [.int (nI (7))] [] lk_0_56 dc_X0_workFor_47 rfl rfl (s_0number _ 7 (by omega)) (by first | rfl | (simp only [nI_add, pk_mul]; first | done | rfl)) rfl ?_
            refine AR.run g_X0_workFor_50_2 53 [some (.ref 4097), some (.int (nI (c))), some (.int (nI (v))), some (.int (m)), some (.int (x6_4)), some (.int (nI (j6))), some (.int (nI ((F_0nextLeaf v y6_T).toNatClampNeg))), none, none] [.int (nI (8)), .ref 4097, .int ((y6_T 5) 7)] _ [] rfl trivial ?_
            refine AR.callV1 (4097) [.int (nI (8))] [.int ((y6_T 5) 7)] lk_0_56 dc_X0_workFor_53 rfl rfl (s_0number _ 8 (by omega)) (by first | rfl | (simp only [nI_add, pk_mul]; first | done | rfl)) rfl ?_
            refine AR.run g_X0_workFor_56_4 62 [some (.ref 4097), some (.int (nI (c))), some (.int (nI (v))), some (.int (m)), some (.int (x6_4)), some (.int (nI (j6))), some (.int (nI ((F_0nextLeaf v y6_T).toNatClampNeg))), none, none] [.int (nI (3)), .int (nI (v)), .ref 4098, .int ((y6_T 5) 8), .int ((y6_T 5) 7)] _ [] rfl trivial ?_
            refine AR.callV1 (4098) [.int (nI (v)), .int (nI (3))] [.int ((y6_T 5) 8), .int ((y6_T 5) 7)] lk_0_45 dc_X0_workFor_62 rfl rfl (s_3atT0 _ v 3 (by omega) (by omega)) (by first | rfl | (simp only [nI_add, pk_mul]; first | done | rfl)) rfl ?_
            refine AR.run g_X0_workFor_65_9 78 [some (.ref 4097), some (.int (nI (c))), some (.int (nI (v))), some (.int (m)), some (.int (x6_4)), some (.int (nI (j6))), some (.int (nI ((F_0nextLeaf v y6_T).toNatClampNeg))), some (.int (((y6_T 5) 7) + (((y6_T 5) 8) * ((y6_T 0) (v * 7 + 3))))), none] [.int (nI (3)), .int (nI (c)), .ref 4104, .int (((y6_T 5) 7) + (((y6_T 5) 8) * ((y6_T 0) (v * 7 + 3)))), .int (nI (1))] _ [] rfl trivial ?_
            refine AR.callV1 (4104) [.int (nI (c)), .int (nI (3))] [.int (((y6_T 5) 7) + (((y6_T 5) 8) * ((y6_T 0) (v * 7 + 3)))), .int (nI (1))] lk_0_45 dc_X0_workFor_78 rfl rfl (s_3atT2 _ c 3 (by omega) (by omega)) (by first | rfl | (simp only [nI_add, pk_mul]; first | done | rfl)) rfl ?_
            refine AR.run g_X0_workFor_81_7 93 [some (.ref 4097), some (.int (nI (c))), some (.int (nI (v))), some (.int (m)), some (.int (x6_4)), some (.int (nI (j6))), some (.int (nI ((F_0nextLeaf v y6_T).toNatClampNeg))), some (.int (((y6_T 5) 7) + (((y6_T 5) 8) * ((y6_T 0) (v * 7 + 3))))), some (.int (if (nI (1)) < ((((y6_T 5) 7) + (((y6_T 5) 8) * ((y6_T 0) (v * 7 + 3)))) - ((y6_T 2) (c * 5 + 3))) then ((((y6_T 5) 7) + (((y6_T 5) 8) * ((y6_T 0) (v * 7 + 3)))) - ((y6_T 2) (c * 5 + 3))) else (nI (1))))] [.int (m - x6_4), .int (if (nI (1)) < ((((y6_T 5) 7) + (((y6_T 5) 8) * ((y6_T 0) (v * 7 + 3)))) - ((y6_T 2) (c * 5 + 3))) then ((((y6_T 5) 7) + (((y6_T 5) 8) * ((y6_T 0) (v * 7 + 3)))) - ((y6_T 2) (c * 5 + 3))) else (nI (1)))] _ [] rfl trivial ?_
            refine AR.le2 (tgt := 111) dc_X0_workFor_93 (by decide) (fun c93_9 => ?_) (fun c93_9 => ?_)
            · refine AR.run g_X0_workFor_111_9 125 [some (.ref 4097), some (.int (nI (c))), some (.int (nI (v))), some (.int (m)), some (.int (x6_4 + (if (nI (1)) < ((((y6_T 5) 7) + (((y6_T 5) 8) * ((y6_T 0) (v * 7 + 3)))) - ((y6_T 2) (c * 5 + 3))) then ((((y6_T 5) 7) + (((y6_T 5) 8) * ((y6_T 0) (v * 7 + 3)))) - ((y6_T 2) (c * 5 + 3))) else (nI (1))))), some (.int (nI (j6))), some (.int (nI ((F_0nextLeaf v y6_T).toNatClampNeg))), some (.int (((y6_T 5) 7) + (((y6_T 5) 8) * ((y6_T 0) (v * 7 + 3))))), some (.int (if (nI (1)) < ((((y6_T 5) 7) + (((y6_T 5) 8) * ((y6_T 0) (v * 7 + 3)))) - ((y6_T 2) (c * 5 + 3))) then ((((y6_T 5) 7) + (((y6_T 5) 8) * ((y6_T 0) (v * 7 + 3)))) - ((y6_T 2) (c * 5 + 3))) else (nI (1))))] [.int (nI (0)), .int (nI (3)), .int (nI (c)), .ref 4104] _ [] rfl trivial ?_
              refine AR.callV0 (4104) [.int (nI (c)), .int (nI (3)), .int (nI (0))] [] lk_0_42 dc_X0_workFor_125 rfl rfl (s_3putT2 _ c 3 (nI (0)) (by omega) (by omega)) (by first | rfl | (simp only [nI_add, pk_mul]; first | done | rfl)) rfl ?_
              refine AR.cast (h1 := (hp o0 (ar (tu y6_T 2 (upd (y6_T 2) ((c * 5) + 3) (nI (0)))) K os sc) t0 p0 m0 u0 l0)) rfl rfl rfl ?_
              refine AR.run g_X0_workFor_128_5 135 [some (.ref 4097), some (.int (nI (c))), some (.int (nI (v))), some (.int (m)), some (.int (x6_4 + (if (nI (1)) < ((((y6_T 5) 7) + (((y6_T 5) 8) * ((y6_T 0) (v * 7 + 3)))) - ((y6_T 2) (c * 5 + 3))) then ((((y6_T 5) 7) + (((y6_T 5) 8) * ((y6_T 0) (v * 7 + 3)))) - ((y6_T 2) (c * 5 + 3))) else (nI (1))))), some (.int (nI (j6))), some (.int (nI ((F_0nextLeaf v y6_T).toNatClampNeg))), some (.int (((y6_T 5) 7) + (((y6_T 5) 8) * ((y6_T 0) (v * 7 + 3))))), some (.int (if (nI (1)) < ((((y6_T 5) 7) + (((y6_T 5) 8) * ((y6_T 0) (v * 7 + 3)))) - ((y6_T 2) (c * 5 + 3))) then ((((y6_T 5) 7) + (((y6_T 5) 8) * ((y6_T 0) (v * 7 + 3)))) - ((y6_T 2) (c * 5 + 3))) else (nI (1))))] [.int (nI (1)), .int (nI (4)), .int (nI (c)), .ref 4104] _ [] rfl trivial ?_
              refine AR.callV0 (4104) [.int (nI (c)), .int (nI (4)), .int (nI (1))] [] lk_0_60 dc_X0_workFor_135 rfl rfl (s_3addT2 _ c 4 (nI (1)) (by omega) (by omega)) (by first | rfl | (simp only [nI_add, pk_mul]; first | done | rfl)) rfl ?_
              refine AR.cast (h1 := (hp o0 (ar (tu y6_T 2 (upd (upd (y6_T 2) ((c * 5) + 3) (nI (0))) ((c * 5) + 4) (((upd (y6_T 2) ((c * 5) + 3) (nI (0))) ((c * 5) + 4)) + (nI (1))))) K os sc) t0 p0 m0 u0 l0)) rfl rfl rfl ?_
              refine AR.run g_X0_workFor_138_3 142 [some (.ref 4097), some (.int (nI (c))), some (.int (nI (v))), some (.int (m)), some (.int (x6_4 + (if (nI (1)) < ((((y6_T 5) 7) + (((y6_T 5) 8) * ((y6_T 0) (v * 7 + 3)))) - ((y6_T 2) (c * 5 + 3))) then ((((y6_T 5) 7) + (((y6_T 5) 8) * ((y6_T 0) (v * 7 + 3)))) - ((y6_T 2) (c * 5 + 3))) else (nI (1))))), some (.int (nI (j6))), some (.int (nI ((F_0nextLeaf v y6_T).toNatClampNeg))), some (.int (((y6_T 5) 7) + (((y6_T 5) 8) * ((y6_T 0) (v * 7 + 3))))), some (.int (if (nI (1)) < ((((y6_T 5) 7) + (((y6_T 5) 8) * ((y6_T 0) (v * 7 + 3)))) - ((y6_T 2) (c * 5 + 3))) then ((((y6_T 5) 7) + (((y6_T 5) 8) * ((y6_T 0) (v * 7 + 3)))) - ((y6_T 2) (c * 5 + 3))) else (nI (1))))] [.int (nI ((F_0nextLeaf v y6_T).toNatClampNeg)), .int (nI (v)), .ref 4097] _ [] rfl trivial ?_
              refine AR.callV0 (4097) [.int (nI (v)), .int (nI ((F_0nextLeaf v y6_T).toNatClampNeg))] [] lk_0_120 dc_X0_workFor_142 rfl rfl (s_0scan _ v ((F_0nextLeaf v y6_T).toNatClampNeg) (by omega) (by omega)) (by first | rfl | (simp only [nI_add, pk_mul]; first | done | rfl)) rfl ?_
              refine AR.run g_X0_workFor_145_2 6 [some (.ref 4097), some (.int (nI (c))), some (.int (nI (v))), some (.int (m)), some (.int (x6_4 + (if (nI (1)) < ((((y6_T 5) 7) + (((y6_T 5) 8) * ((y6_T 0) (v * 7 + 3)))) - ((y6_T 2) (c * 5 + 3))) then ((((y6_T 5) 7) + (((y6_T 5) 8) * ((y6_T 0) (v * 7 + 3)))) - ((y6_T 2) (c * 5 + 3))) else (nI (1))))), some (.int ((nI (j6)) + (nI (1)))), some (.int (nI ((F_0nextLeaf v y6_T).toNatClampNeg))), some (.int (((y6_T 5) 7) + (((y6_T 5) 8) * ((y6_T 0) (v * 7 + 3))))), some (.int (if (nI (1)) < ((((y6_T 5) 7) + (((y6_T 5) 8) * ((y6_T 0) (v * 7 + 3)))) - ((y6_T 2) (c * 5 + 3))) then ((((y6_T 5) 7) + (((y6_T 5) 8) * ((y6_T 0) (v * 7 + 3)))) - ((y6_T 2) (c * 5 + 3))) else (nI (1))))] [] _ [] rfl trivial ?_
              refine AR.drop (L' := [some (.ref 4097), some (.int (nI (c))), some (.int (nI (v))), some (.int (m)), some (.int (x6_4 + (if (nI (1)) < ((((y6_T 5) 7) + (((y6_T 5) 8) * ((y6_T 0) (v * 7 + 3)))) - ((y6_T 2) (c * 5 + 3))) then ((((y6_T 5) 7) + (((y6_T 5) 8) * ((y6_T 0) (v * 7 + 3)))) - ((y6_T 2) (c * 5 + 3))) else (nI (1))))), some (.int ((nI (j6)) + (nI (1)))), none, none, none]) ⟨rfl, rfl, rfl, rfl, rfl, rfl, trivial⟩ ?_
              have e10 : W_0workFor_6 c v m (f6 + 1) j6 x6_4 y6_T = W_0workFor_6 c v m f6 (j6 + 1) (x6_4 + (if (nI (1)) < ((((y6_T 5) 7) + (((y6_T 5) 8) * ((y6_T 0) (v * 7 + 3)))) - ((y6_T 2) (c * 5 + 3))) then ((((y6_T 5) 7) + (((y6_T 5) 8) * ((y6_T 0) (v * 7 + 3)))) - ((y6_T 2) (c * 5 + 3))) else (nI (1)))) (F_0scan_T v ((F_0nextLeaf v y6_T).toNatClampNeg) (tu y6_T 2 (upd (upd (y6_T 2) ((c * 5) + 3) (nI (0))) ((c * 5) + 4) (((upd (y6_T 2) ((c * 5) + 3) (nI (0))) ((c * 5) + 4)) + (nI (1)))))) := by rw [W_0workFor_6, if_neg c16_4, if_neg c29_6, if_neg c38_8, if_pos c93_9]
              rw [e10]
              exact AR.cast (L' := [some (.ref 4097), some (.int (nI (c))), some (.int (nI (v))), some (.int (m)), some (.int (x6_4 + (if (nI (1)) < ((((y6_T 5) 7) + (((y6_T 5) 8) * ((y6_T 0) (v * 7 + 3)))) - ((y6_T 2) (c * 5 + 3))) then ((((y6_T 5) 7) + (((y6_T 5) 8) * ((y6_T 0) (v * 7 + 3)))) - ((y6_T 2) (c * 5 + 3))) else (nI (1))))), some (.int (nI (j6 + 1))), none, none, none]) (by first | rfl | rw [nI_add]) rfl rfl (ih6 (j6 + 1) (x6_4 + (if (nI (1)) < ((((y6_T 5) 7) + (((y6_T 5) 8) * ((y6_T 0) (v * 7 + 3)))) - ((y6_T 2) (c * 5 + 3))) then ((((y6_T 5) 7) + (((y6_T 5) 8) * ((y6_T 0) (v * 7 + 3)))) - ((y6_T 2) (c * 5 + 3))) else (nI (1)))) (F_0scan_T v ((F_0nextLeaf v y6_T).toNatClampNeg) (tu y6_T 2 (upd (upd (y6_T 2) ((c * 5) + 3) (nI (0))) ((c * 5) + 4) (((upd (y6_T 2) ((c * 5) + 3) (nI (0))) ((c * 5) + 4)) + (nI (1)))))) (by omega) (HLv_scan (HLv_of rfl hI6)))
            · refine AR.run g_X0_workFor_96_7 106 [some (.ref 4097), some (.int (nI (c))), some (.int (nI (v))), some (.int (m)), some (.int (x6_4)), some (.int (nI (j6))), some (.int (nI ((F_0nextLeaf v y6_T).toNatClampNeg))), some (.int (((y6_T 5) 7) + (((y6_T 5) 8) * ((y6_T 0) (v * 7 + 3))))), some (.int (if (nI (1)) < ((((y6_T 5) 7) + (((y6_T 5) 8) * ((y6_T 0) (v * 7 + 3)))) - ((y6_T 2) (c * 5 + 3))) then ((((y6_T 5) 7) + (((y6_T 5) 8) * ((y6_T 0) (v * 7 + 3)))) - ((y6_T 2) (c * 5 + 3))) else (nI (1))))] [.int (m - x6_4), .int (nI (3)), .int (nI (c)), .ref 4104] _ [] rfl trivial ?_
              refine AR.callV0 (4104) [.int (nI (c)), .int (nI (3)), .int (m - x6_4)] [] lk_0_60 dc_X0_workFor_106 rfl rfl (s_3addT2 _ c 3 (m - x6_4) (by omega) (by omega)) (by first | rfl | (simp only [nI_add, pk_mul]; first | done | rfl)) rfl ?_
              refine AR.cast (h1 := (hp o0 (ar (tu y6_T 2 (upd (y6_T 2) ((c * 5) + 3) (((y6_T 2) ((c * 5) + 3)) + (m - x6_4)))) K os sc) t0 p0 m0 u0 l0)) rfl rfl rfl ?_
              refine AR.run g_X0_workFor_109_1 110 [some (.ref 4097), some (.int (nI (c))), some (.int (nI (v))), some (.int (m)), some (.int (x6_4)), some (.int (nI (j6))), some (.int (nI ((F_0nextLeaf v y6_T).toNatClampNeg))), some (.int (((y6_T 5) 7) + (((y6_T 5) 8) * ((y6_T 0) (v * 7 + 3))))), some (.int (if (nI (1)) < ((((y6_T 5) 7) + (((y6_T 5) 8) * ((y6_T 0) (v * 7 + 3)))) - ((y6_T 2) (c * 5 + 3))) then ((((y6_T 5) 7) + (((y6_T 5) 8) * ((y6_T 0) (v * 7 + 3)))) - ((y6_T 2) (c * 5 + 3))) else (nI (1))))] [.int (m)] _ [] rfl trivial ?_
              have e11 : W_0workFor_6 c v m (f6 + 1) j6 x6_4 y6_T = (m, tu y6_T 2 (upd (y6_T 2) ((c * 5) + 3) (((y6_T 2) ((c * 5) + 3)) + (m - x6_4)))) := by rw [W_0workFor_6, if_neg c16_4, if_neg c29_6, if_neg c38_8, if_neg c93_9]
              rw [e11]
              exact AR.retI dc_X0_workFor_110 rfl rfl rfl
          · refine AR.run g_X0_workFor_41_1 43 [some (.ref 4097), some (.int (nI (c))), some (.int (nI (v))), some (.int (m)), some (.int (x6_4)), some (.int (nI (j6))), some (.int (nI ((F_0nextLeaf v y6_T).toNatClampNeg))), none, none] [.int (x6_4)] _ [] rfl trivial ?_
            have e12 : W_0workFor_6 c v m (f6 + 1) j6 x6_4 y6_T = (x6_4, y6_T) := by rw [W_0workFor_6, if_neg c16_4, if_neg c29_6, if_pos c38_8]
            rw [e12]
            exact AR.retI dc_X0_workFor_43 rfl rfl rfl
  have e14_0 : F_0workFor c v m T = ((W_0workFor_6 c v m 40 0 (nI (0)) T).1) := by rw [F_0workFor]
  have e14_1 : F_0workFor_T c v m T = ((W_0workFor_6 c v m 40 0 (nI (0)) T).2) := by rw [F_0workFor_T]
  exact AR.end' (by first | rfl | (rw [e14_0])) (by first | rfl | (rw [e14_1])) (AR.cast rfl rfl rfl (hW 40 0 (nI (0)) T (by omega) hH))
