/-! changes of the reference's cells -/
theorem upd_ne {f : Nat → Int32} {i k : Nat} {x : Int32} (h : k ≠ i) : upd f i x k = f k := if_neg h
theorem upd_eq {f : Nat → Int32} {i : Nat} {x : Int32} : upd f i x i = x := if_pos rfl
theorem lv_upd {z : Nat → Int32} {i v : Nat} {x : Int32} (h : i ≠ 11 + 7 * v + 2) : lv (upd z i x) v = lv z v := by
  unfold lv
  rw [upd_ne (fun q => h q.symm)]
theorem LV_upd {z : Nat → Int32} {nv i : Nat} {x : Int32} (h12 : nv ≤ 12) (h : ∀ v, v < 12 → i ≠ 11 + 7 * v + 2) (hL : LV z nv) : LV (upd z i x) nv := by
  intro v hv
  rw [lv_upd (h v (by omega)), upd_ne (fun q => h v (by omega) q.symm)]
  exact hL v hv
/-- a place that the walks don't look at -/
def plc (i : Nat) : Prop := i ≠ 0 ∧ i ≠ 1 ∧ i ≠ 2 ∧ i ≠ 5 ∧ ∀ v, v < 12 → i ≠ 11 + 7 * v + 2
theorem ZI_upd {z : Nat → Int32} {nv nc nr ne i : Nat} {x : Int32} (h : plc i) (hZ : ZI z nv nc nr ne) : ZI (upd z i x) nv nc nr ne := by
  obtain ⟨a, b, c, e, g⟩ := h
  obtain ⟨⟨h1, h2⟩, ⟨h3, h4⟩, ⟨h5, h6⟩, ⟨h7, h8⟩, h9⟩ := hZ
  exact ⟨⟨(upd_ne a.symm).trans h1, h2⟩, ⟨(upd_ne b.symm).trans h3, h4⟩, ⟨(upd_ne c.symm).trans h5, h6⟩, ⟨(upd_ne e.symm).trans h7, h8⟩, LV_upd h2 g h9⟩
theorem nlB_congr {f g : Nat → Int32} : ∀ {m k : Nat}, (∀ j, k ≤ j → j < k + m → f j = g j) → nlB f m k = nlB g m k := by
  have H : ∀ (y : Int32) (m k : Nat), (∀ j, k ≤ j → j < k + m → f j = g j) → fi (fun j => f j = y) m k = fi (fun j => g j = y) m k := by
    intro y m
    induction m with
    | zero => intro k _; rfl
    | succ m ih =>
      intro k h
      unfold fi
      rw [ih (k + 1) (fun j h1 h2 => h j (by omega) (by omega)), h k (Nat.le_refl _) (by omega)]
  intro m k h
  unfold nlB
  rw [H _ m k h, H _ m k h]
theorem nlO_upd {z : Nat → Int32} {i v n : Nat} {x : Int32} (h : i < 423) : nlO (upd z i x) v n = nlO z v n := nlB_congr fun j _ _ => upd_ne (by omega)
def B_5saveF_11 (j11 : Nat) (y11_ro : Nat → Int32) : (Nat → Int32) := (upd y11_ro j11 (y11_ro (1863 + j11)))
def L_5saveF_11 (ro : Nat → Int32) : Nat → (Nat → Int32)
  | 0 => ro
  | j + 1 => B_5saveF_11  j (L_5saveF_11 ro  j)
def B_5saveF_52 (z : Nat → Int32) (j52 : Nat) (y52_ro : Nat → Int32) : (Nat → Int32) := (upd y52_ro ((1863 * (6 - 1)) + j52) (z j52))
def L_5saveF_52 (z : Nat → Int32) (ro : Nat → Int32) : Nat → (Nat → Int32)
  | 0 => L_5saveF_11 ro 9315
  | j + 1 => B_5saveF_52 z j (L_5saveF_52 z ro  j)
def F_5saveF_ro (z : Nat → Int32) (ro : Nat → Int32) : Nat → Int32 := (L_5saveF_52 z ro 1863)
def F_5saveF_sv : Int32 := ((nI ((6 - 1))) + (nI (1)))
theorem g_X5_save_0_2 : ab_oks M_X5_save [(0, .aload_n 0, 1, 0, 0, 0, .null), (1, .getfield 48, 3, 5, 13, 949, .null)] = true := by decide +kernel
theorem g_X5_save_4_1 : ab_oks M_X5_save [(4, .bipush 6, 2, 0, 0, 0, .int (nI (6)))] = true := by decide +kernel
theorem dc_X5_save_6 : decode (AM.bytes M_X5_save) 6 = .ok (.if_icmp .ne 44, 3) := by decide +kernel
theorem g_X5_save_9_2 : ab_oks M_X5_save [(9, .iconst 0, 1, 0, 0, 0, .int (nI (0))), (10, .istore_n 1, 1, 1, 0, 0, .null)] = true := by decide +kernel
theorem g_X5_save_11_2 : ab_oks M_X5_save [(11, .iload_n 1, 1, 1, 0, 0, .null), (12, .sipush 9315, 3, 0, 0, 0, .int (nI (9315)))] = true := by decide +kernel
theorem dc_X5_save_15 : decode (AM.bytes M_X5_save) 15 = .ok (.if_icmp .ge 25, 3) := by decide +kernel
theorem g_X5_save_18_8 : ab_oks M_X5_save [(18, .aload_n 0, 1, 0, 0, 0, .null), (19, .getfield 16, 3, 5, 2, 938, .null), (22, .iload_n 1, 1, 1, 0, 0, .null), (23, .aload_n 0, 1, 0, 0, 0, .null), (24, .getfield 16, 3, 5, 2, 938, .null), (27, .sipush 1863, 3, 0, 0, 0, .int (nI (1863))), (30, .iload_n 1, 1, 1, 0, 0, .null), (31, .iadd, 1, 0, 0, 0, .null)] = true := by decide +kernel
theorem ok_X5_save_32 : ab_ok M_X5_save (32, .iaload, 1, 0, 0, 0, .null) = true := by decide +kernel
theorem ok_X5_save_33 : ab_ok M_X5_save (33, .iastore, 1, 0, 0, 0, .null) = true := by decide +kernel
theorem g_X5_save_34_2 : ab_oks M_X5_save [(34, .iinc 1 1, 3, 1, 0, 0, .int (nI (1))), (37, .goto (-26), 3, 11, 0, 0, .null)] = true := by decide +kernel
theorem g_X5_save_40_3 : ab_oks M_X5_save [(40, .aload_n 0, 1, 0, 0, 0, .null), (41, .dup, 1, 0, 0, 0, .null), (42, .getfield 48, 3, 5, 13, 949, .null)] = true := by decide +kernel
theorem g_X5_save_45_2 : ab_oks M_X5_save [(45, .iconst 1, 1, 0, 0, 0, .int (nI (1))), (46, .isub, 1, 0, 0, 0, .null)] = true := by decide +kernel
theorem g_X5_save_47_3 : ab_oks M_X5_save [(47, .putfield 48, 3, 5, 13, 949, .null), (50, .iconst 0, 1, 0, 0, 0, .int (nI (0))), (51, .istore_n 1, 1, 1, 0, 0, .null)] = true := by decide +kernel
theorem g_X5_save_52_2 : ab_oks M_X5_save [(52, .iload_n 1, 1, 1, 0, 0, .null), (53, .sipush 1863, 3, 0, 0, 0, .int (nI (1863)))] = true := by decide +kernel
theorem dc_X5_save_56 : decode (AM.bytes M_X5_save) 56 = .ok (.if_icmp .ge 30, 3) := by decide +kernel
theorem g_X5_save_59_11 : ab_oks M_X5_save [(59, .aload_n 0, 1, 0, 0, 0, .null), (60, .getfield 16, 3, 5, 2, 938, .null), (63, .sipush 1863, 3, 0, 0, 0, .int (nI (1863))), (66, .aload_n 0, 1, 0, 0, 0, .null), (67, .getfield 48, 3, 5, 13, 949, .null), (70, .imul, 1, 0, 0, 0, .null), (71, .iload_n 1, 1, 1, 0, 0, .null), (72, .iadd, 1, 0, 0, 0, .null), (73, .aload_n 0, 1, 0, 0, 0, .null), (74, .getfield 7, 3, 5, 0, 936, .null), (77, .iload_n 1, 1, 1, 0, 0, .null)] = true := by decide +kernel
theorem ok_X5_save_78 : ab_ok M_X5_save (78, .iaload, 1, 0, 0, 0, .null) = true := by decide +kernel
theorem ok_X5_save_79 : ab_ok M_X5_save (79, .iastore, 1, 0, 0, 0, .null) = true := by decide +kernel
theorem g_X5_save_80_2 : ab_oks M_X5_save [(80, .iinc 1 1, 3, 1, 0, 0, .int (nI (1))), (83, .goto (-31), 3, 52, 0, 0, .null)] = true := by decide +kernel
theorem g_X5_save_86_6 : ab_oks M_X5_save [(86, .aload_n 0, 1, 0, 0, 0, .null), (87, .dup, 1, 0, 0, 0, .null), (88, .getfield 48, 3, 5, 13, 949, .null), (91, .iconst 1, 1, 0, 0, 0, .int (nI (1))), (92, .iadd, 1, 0, 0, 0, .null), (93, .putfield 48, 3, 5, 13, 949, .null)] = true := by decide +kernel
theorem dc_X5_save_96 : decode (AM.bytes M_X5_save) 96 = .ok (.return_, 1) := by decide +kernel
set_option maxRecDepth 100000 in
set_option maxHeartbeats 4000000 in
theorem s_5saveF {E : AE} (d : Nat)  {o0 a0 t0 p0 u0 l0 : List AC} {z sa ro te fr to un ga pi be : Nat → Int32} {bm en sta sv ln th : Int32} {hh : Int64} (hs : sv = nI 6) : CT E M_X5_save d [.ref 16384] (hp o0 a0 t0 p0 (mo z sa ro te fr to un ga pi be bm en sta sv ln th hh) u0 l0) (.inl none) (hp o0 a0 t0 p0 (mo z sa (F_5saveF_ro z ro) te fr to un ga pi be bm en sta F_5saveF_sv ln th hh) u0 l0) 0 0 := by
  refine CT.of (L := [some (.ref 16384), none]) rfl rfl ?_
  refine AR.run g_X5_save_0_2 4 [some (.ref 16384), none] [.int (sv)] _ [] rfl trivial ?_
  refine AR.top hs ?_
  refine AR.run g_X5_save_4_1 6 [some (.ref 16384), none] [.int (nI (6)), .int (nI (6))] _ [] rfl trivial ?_
  refine AR.ne2N (tgt := 50) (a := 6) (b := 6) dc_X5_save_6 (by decide) (by first | rfl | (simp only [nI_add, pk_mul]; first | done | rfl)) (by first | rfl | (simp only [nI_add, pk_mul]; first | done | rfl)) (by omega) (by omega) (fun c6_1 => absurd c6_1 (by omega)) (fun c6_1 => ?_)
  refine AR.run g_X5_save_9_2 11 [some (.ref 16384), some (.int (nI (0)))] [] _ [] rfl trivial ?_
  refine AR.cast (L' := [some (.ref 16384), some (.int (nI (0)))]) (by first | rfl | (rw [L_5saveF_11])) rfl (by first | rfl | (rw [L_5saveF_11])) (AR.loopN 9315 (fun j11 => [some (.ref 16384), some (.int (nI (j11)))]) (fun j11 => (hp o0 a0 t0 p0 (mo z sa (L_5saveF_11 ro j11) te fr to un ga pi be bm en sta sv ln th hh) u0 l0)) (fun j11 => True) (fun j11 hj11 hI11 ih11 => ?_) (fun hI11 => ?_) 0 (by omega) (by first | trivial | omega))
  · refine AR.run g_X5_save_11_2 15 [some (.ref 16384), some (.int (nI (j11)))] [.int (nI (9315)), .int (nI (j11))] _ [] rfl trivial ?_
    refine AR.ge2N (tgt := 40) (a := j11) (b := 9315) dc_X5_save_15 (by decide) (by first | rfl | (simp only [nI_add, pk_mul]; first | done | rfl)) (by first | rfl | (simp only [nI_add, pk_mul]; first | done | rfl)) (by omega) (by omega) (fun c15_2 => absurd c15_2 (by omega)) (fun c15_2 => ?_)
    refine AR.run g_X5_save_18_8 32 [some (.ref 16384), some (.int (nI (j11)))] [.int ((nI (1863)) + (nI (j11))), .ref 16387, .int (nI (j11)), .ref 16387] _ [] rfl trivial ?_
    refine AR.ald (n := 0) (e := (1863 + j11)) ok_X5_save_32 (by first | rfl | (simp only [nI_add, pk_mul]; first | done | rfl)) rfl (by omega) (by first | decide | omega) ?_
    refine AR.ast (n := 0) (e := j11) (h1 := (hp o0 a0 t0 p0 (mo z sa (upd (L_5saveF_11 ro j11) j11 ((L_5saveF_11 ro j11) (1863 + j11))) te fr to un ga pi be bm en sta sv ln th hh) u0 l0)) ok_X5_save_33 (by first | rfl | (simp only [nI_add, pk_mul]; first | done | rfl)) rfl rfl (by omega) (by decide) rfl ?_
    refine AR.run g_X5_save_34_2 11 [some (.ref 16384), some (.int ((nI (j11)) + (nI (1))))] [] _ [] rfl trivial ?_
    have e3 : L_5saveF_11 ro (j11 + 1) = (upd (L_5saveF_11 ro j11) j11 ((L_5saveF_11 ro j11) (1863 + j11))) := by rw [L_5saveF_11, B_5saveF_11]
    exact AR.cast (L' := [some (.ref 16384), some (.int (nI (j11 + 1)))]) (by first | rfl | (rw [nI_add]; done) | (rw [nI_add]; rfl)) rfl (by rw [e3]) (ih11 (by first | trivial | omega))
  · refine AR.run g_X5_save_11_2 15 [some (.ref 16384), some (.int (nI (9315)))] [.int (nI (9315)), .int (nI (9315))] _ [] rfl trivial ?_
    refine AR.ge2N (tgt := 40) (a := 9315) (b := 9315) dc_X5_save_15 (by decide) (by first | rfl | (simp only [nI_add, pk_mul]; first | done | rfl)) (by first | rfl | (simp only [nI_add, pk_mul]; first | done | rfl)) (by omega) (by omega) (fun c15_4 => ?_) (fun c15_4 => absurd c15_4 (by omega))
    refine AR.run g_X5_save_40_3 45 [some (.ref 16384), some (.int (nI (9315)))] [.int (sv), .ref 16384] _ [] rfl trivial ?_
    refine AR.top hs ?_
    refine AR.run g_X5_save_45_2 47 [some (.ref 16384), some (.int (nI (9315)))] [.int ((nI (6)) - (nI (1))), .ref 16384] _ [] rfl trivial ?_
    refine AR.cast (L' := [some (.ref 16384), some (.int (nI (9315)))]) (st' := [.int (nI ((6 - 1))), .ref 16384]) rfl (by rw [pk_sub (by omega)]) rfl ?_
    refine AR.run g_X5_save_47_3 52 [some (.ref 16384), some (.int (nI (0)))] [] (hp o0 a0 t0 p0 (mo z sa (L_5saveF_11 ro 9315) te fr to un ga pi be bm en sta (nI ((6 - 1))) ln th hh) u0 l0) [] rfl trivial ?_
    refine AR.cast (L' := [some (.ref 16384), some (.int (nI (0)))]) (by first | rfl | (rw [L_5saveF_52])) rfl (by first | rfl | (rw [L_5saveF_52])) (AR.loopN 1863 (fun j52 => [some (.ref 16384), some (.int (nI (j52)))]) (fun j52 => (hp o0 a0 t0 p0 (mo z sa (L_5saveF_52 z ro j52) te fr to un ga pi be bm en sta (nI ((6 - 1))) ln th hh) u0 l0)) (fun j52 => True) (fun j52 hj52 hI52 ih52 => ?_) (fun hI52 => ?_) 0 (by omega) (by first | trivial | omega))
    · refine AR.run g_X5_save_52_2 56 [some (.ref 16384), some (.int (nI (j52)))] [.int (nI (1863)), .int (nI (j52))] _ [] rfl trivial ?_
      refine AR.ge2N (tgt := 86) (a := j52) (b := 1863) dc_X5_save_56 (by decide) (by first | rfl | (simp only [nI_add, pk_mul]; first | done | rfl)) (by first | rfl | (simp only [nI_add, pk_mul]; first | done | rfl)) (by omega) (by omega) (fun c56_5 => absurd c56_5 (by omega)) (fun c56_5 => ?_)
      refine AR.run g_X5_save_59_11 78 [some (.ref 16384), some (.int (nI (j52)))] [.int (nI (j52)), .ref 16385, .int (((nI (1863)) * (nI ((6 - 1)))) + (nI (j52))), .ref 16387] _ [] rfl trivial ?_
      refine AR.ald (n := 0) (e := j52) ok_X5_save_78 (by first | rfl | (simp only [nI_add, pk_mul]; first | done | rfl)) rfl (by omega) (by first | decide | omega) ?_
      refine AR.ast (n := 0) (e := ((1863 * (6 - 1)) + j52)) (h1 := (hp o0 a0 t0 p0 (mo z sa (upd (L_5saveF_52 z ro j52) ((1863 * (6 - 1)) + j52) (z j52)) te fr to un ga pi be bm en sta (nI ((6 - 1))) ln th hh) u0 l0)) ok_X5_save_79 (by first | rfl | (simp only [nI_add, pk_mul]; first | done | rfl)) rfl rfl (by omega) (by decide) rfl ?_
      refine AR.run g_X5_save_80_2 52 [some (.ref 16384), some (.int ((nI (j52)) + (nI (1))))] [] _ [] rfl trivial ?_
      have e6 : L_5saveF_52 z ro (j52 + 1) = (upd (L_5saveF_52 z ro j52) ((1863 * (6 - 1)) + j52) (z j52)) := by rw [L_5saveF_52, B_5saveF_52]
      exact AR.cast (L' := [some (.ref 16384), some (.int (nI (j52 + 1)))]) (by first | rfl | (rw [nI_add]; done) | (rw [nI_add]; rfl)) rfl (by rw [e6]) (ih52 (by first | trivial | omega))
    · refine AR.run g_X5_save_52_2 56 [some (.ref 16384), some (.int (nI (1863)))] [.int (nI (1863)), .int (nI (1863))] _ [] rfl trivial ?_
      refine AR.ge2N (tgt := 86) (a := 1863) (b := 1863) dc_X5_save_56 (by decide) (by first | rfl | (simp only [nI_add, pk_mul]; first | done | rfl)) (by first | rfl | (simp only [nI_add, pk_mul]; first | done | rfl)) (by omega) (by omega) (fun c56_7 => ?_) (fun c56_7 => absurd c56_7 (by omega))
      refine AR.run g_X5_save_86_6 96 [some (.ref 16384), some (.int (nI (1863)))] [] (hp o0 a0 t0 p0 (mo z sa (L_5saveF_52 z ro 1863) te fr to un ga pi be bm en sta ((nI ((6 - 1))) + (nI (1))) ln th hh) u0 l0) [] rfl trivial ?_
      have e8_0 : F_5saveF_ro z ro = (L_5saveF_52 z ro 1863) := by rw [F_5saveF_ro]
      have e8_1 : F_5saveF_sv = ((nI ((6 - 1))) + (nI (1))) := by rw [F_5saveF_sv]
      exact AR.retV dc_X5_save_96 rfl (by rw [e8_0, e8_1])
def B_5saveM_52 (s : Nat) (z : Nat → Int32) (j52 : Nat) (y52_ro : Nat → Int32) : (Nat → Int32) := (upd y52_ro ((1863 * s) + j52) (z j52))
def L_5saveM_52 (s : Nat) (z : Nat → Int32) (ro : Nat → Int32) : Nat → (Nat → Int32)
  | 0 => ro
  | j + 1 => B_5saveM_52 s z j (L_5saveM_52 s z ro  j)
def F_5saveM_ro (s : Nat) (z : Nat → Int32) (ro : Nat → Int32) : Nat → Int32 := (L_5saveM_52 s z ro 1863)
def F_5saveM_sv (s : Nat) : Int32 := ((nI (s)) + (nI (1)))
theorem g_X5_save_50_2 : ab_oks M_X5_save [(50, .iconst 0, 1, 0, 0, 0, .int (nI (0))), (51, .istore_n 1, 1, 1, 0, 0, .null)] = true := by decide +kernel
theorem g_X5_save_59_5 : ab_oks M_X5_save [(59, .aload_n 0, 1, 0, 0, 0, .null), (60, .getfield 16, 3, 5, 2, 938, .null), (63, .sipush 1863, 3, 0, 0, 0, .int (nI (1863))), (66, .aload_n 0, 1, 0, 0, 0, .null), (67, .getfield 48, 3, 5, 13, 949, .null)] = true := by decide +kernel
theorem g_X5_save_70_6 : ab_oks M_X5_save [(70, .imul, 1, 0, 0, 0, .null), (71, .iload_n 1, 1, 1, 0, 0, .null), (72, .iadd, 1, 0, 0, 0, .null), (73, .aload_n 0, 1, 0, 0, 0, .null), (74, .getfield 7, 3, 5, 0, 936, .null), (77, .iload_n 1, 1, 1, 0, 0, .null)] = true := by decide +kernel
theorem g_X5_save_86_3 : ab_oks M_X5_save [(86, .aload_n 0, 1, 0, 0, 0, .null), (87, .dup, 1, 0, 0, 0, .null), (88, .getfield 48, 3, 5, 13, 949, .null)] = true := by decide +kernel
theorem g_X5_save_91_3 : ab_oks M_X5_save [(91, .iconst 1, 1, 0, 0, 0, .int (nI (1))), (92, .iadd, 1, 0, 0, 0, .null), (93, .putfield 48, 3, 5, 13, 949, .null)] = true := by decide +kernel
set_option maxRecDepth 100000 in
set_option maxHeartbeats 4000000 in
theorem s_5saveM {E : AE} (d : Nat) {s : Nat}  {o0 a0 t0 p0 u0 l0 : List AC} {z sa ro te fr to un ga pi be : Nat → Int32} {bm en sta sv ln th : Int32} {hh : Int64} (hs : sv = nI s) (hs6 : s < 6) : CT E M_X5_save d [.ref 16384] (hp o0 a0 t0 p0 (mo z sa ro te fr to un ga pi be bm en sta sv ln th hh) u0 l0) (.inl none) (hp o0 a0 t0 p0 (mo z sa (F_5saveM_ro s z ro) te fr to un ga pi be bm en sta (F_5saveM_sv s) ln th hh) u0 l0) 0 0 := by
  refine CT.of (L := [some (.ref 16384), none]) rfl rfl ?_
  refine AR.run g_X5_save_0_2 4 [some (.ref 16384), none] [.int (sv)] _ [] rfl trivial ?_
  refine AR.top hs ?_
  refine AR.run g_X5_save_4_1 6 [some (.ref 16384), none] [.int (nI (6)), .int (nI (s))] _ [] rfl trivial ?_
  refine AR.ne2N (tgt := 50) (a := s) (b := 6) dc_X5_save_6 (by decide) (by first | rfl | (simp only [nI_add, pk_mul]; first | done | rfl)) (by first | rfl | (simp only [nI_add, pk_mul]; first | done | rfl)) (by omega) (by omega) (fun c6_1 => ?_) (fun c6_1 => absurd c6_1 (by omega))
  refine AR.run g_X5_save_50_2 52 [some (.ref 16384), some (.int (nI (0)))] [] _ [] rfl trivial ?_
  refine AR.cast (L' := [some (.ref 16384), some (.int (nI (0)))]) (by first | rfl | (rw [L_5saveM_52])) rfl (by first | rfl | (rw [L_5saveM_52])) (AR.loopN 1863 (fun j52 => [some (.ref 16384), some (.int (nI (j52)))]) (fun j52 => (hp o0 a0 t0 p0 (mo z sa (L_5saveM_52 s z ro j52) te fr to un ga pi be bm en sta sv ln th hh) u0 l0)) (fun j52 => True) (fun j52 hj52 hI52 ih52 => ?_) (fun hI52 => ?_) 0 (by omega) (by first | trivial | omega))
  · refine AR.run g_X5_save_52_2 56 [some (.ref 16384), some (.int (nI (j52)))] [.int (nI (1863)), .int (nI (j52))] _ [] rfl trivial ?_
    refine AR.ge2N (tgt := 86) (a := j52) (b := 1863) dc_X5_save_56 (by decide) (by first | rfl | (simp only [nI_add, pk_mul]; first | done | rfl)) (by first | rfl | (simp only [nI_add, pk_mul]; first | done | rfl)) (by omega) (by omega) (fun c56_2 => absurd c56_2 (by omega)) (fun c56_2 => ?_)
    refine AR.run g_X5_save_59_5 70 [some (.ref 16384), some (.int (nI (j52)))] [.int (sv), .int (nI (1863)), .ref 16387] _ [] rfl trivial ?_
    refine AR.top hs ?_
    refine AR.run g_X5_save_70_6 78 [some (.ref 16384), some (.int (nI (j52)))] [.int (nI (j52)), .ref 16385, .int (((nI (1863)) * (nI (s))) + (nI (j52))), .ref 16387] _ [] rfl trivial ?_
    refine AR.ald (n := 0) (e := j52) ok_X5_save_78 (by first | rfl | (simp only [nI_add, pk_mul]; first | done | rfl)) rfl (by omega) (by first | decide | omega) ?_
    refine AR.ast (n := 0) (e := ((1863 * s) + j52)) (h1 := (hp o0 a0 t0 p0 (mo z sa (upd (L_5saveM_52 s z ro j52) ((1863 * s) + j52) (z j52)) te fr to un ga pi be bm en sta sv ln th hh) u0 l0)) ok_X5_save_79 (by first | rfl | (simp only [nI_add, pk_mul]; first | done | rfl)) rfl rfl (by omega) (by decide) rfl ?_
    refine AR.run g_X5_save_80_2 52 [some (.ref 16384), some (.int ((nI (j52)) + (nI (1))))] [] _ [] rfl trivial ?_
    have e3 : L_5saveM_52 s z ro (j52 + 1) = (upd (L_5saveM_52 s z ro j52) ((1863 * s) + j52) (z j52)) := by rw [L_5saveM_52, B_5saveM_52]
    exact AR.cast (L' := [some (.ref 16384), some (.int (nI (j52 + 1)))]) (by first | rfl | (rw [nI_add]; done) | (rw [nI_add]; rfl)) rfl (by rw [e3]) (ih52 (by first | trivial | omega))
  · refine AR.run g_X5_save_52_2 56 [some (.ref 16384), some (.int (nI (1863)))] [.int (nI (1863)), .int (nI (1863))] _ [] rfl trivial ?_
    refine AR.ge2N (tgt := 86) (a := 1863) (b := 1863) dc_X5_save_56 (by decide) (by first | rfl | (simp only [nI_add, pk_mul]; first | done | rfl)) (by first | rfl | (simp only [nI_add, pk_mul]; first | done | rfl)) (by omega) (by omega) (fun c56_4 => ?_) (fun c56_4 => absurd c56_4 (by omega))
    refine AR.run g_X5_save_86_3 91 [some (.ref 16384), some (.int (nI (1863)))] [.int (sv), .ref 16384] _ [] rfl trivial ?_
    refine AR.top hs ?_
    refine AR.run g_X5_save_91_3 96 [some (.ref 16384), some (.int (nI (1863)))] [] (hp o0 a0 t0 p0 (mo z sa (L_5saveM_52 s z ro 1863) te fr to un ga pi be bm en sta ((nI (s)) + (nI (1))) ln th hh) u0 l0) [] rfl trivial ?_
    have e5_0 : F_5saveM_ro s z ro = (L_5saveM_52 s z ro 1863) := by rw [F_5saveM_ro]
    have e5_1 : F_5saveM_sv s = ((nI (s)) + (nI (1))) := by rw [F_5saveM_sv]
    exact AR.retV dc_X5_save_96 rfl (by rw [e5_0, e5_1])
/-- the saved states behind a save -/
def svR (z ro : Nat → Int32) (s : Nat) : Nat → Int32 := if s = 6 then F_5saveF_ro z ro else F_5saveM_ro s z ro
def svN (s : Nat) : Nat := if s = 6 then 6 else s + 1
theorem s_5save {E : AE} (d : Nat) {s : Nat} {o0 a0 t0 p0 u0 l0 : List AC} {z sa ro te fr to un ga pi be : Nat → Int32} {bm en sta sv ln th : Int32} {hh : Int64} (hs : sv = nI s) (hs6 : s ≤ 6) : CT E M_X5_save d [.ref 16384] (hp o0 a0 t0 p0 (mo z sa ro te fr to un ga pi be bm en sta sv ln th hh) u0 l0) (.inl none) (hp o0 a0 t0 p0 (mo z sa (svR z ro s) te fr to un ga pi be bm en sta (nI (svN s)) ln th hh) u0 l0) 0 0 := by
  by_cases h : s = 6
  · subst h
    have h1 := s_5saveF (E := E) d (o0 := o0) (a0 := a0) (t0 := t0) (p0 := p0) (u0 := u0) (l0 := l0) (z := z) (sa := sa) (ro := ro) (te := te) (fr := fr) (to := to) (un := un) (ga := ga) (pi := pi) (be := be) (bm := bm) (en := en) (sta := sta) (ln := ln) (th := th) (hh := hh) hs
    exact h1
  · have h1 := s_5saveM (E := E) d (o0 := o0) (a0 := a0) (t0 := t0) (p0 := p0) (u0 := u0) (l0 := l0) (z := z) (sa := sa) (ro := ro) (te := te) (fr := fr) (to := to) (un := un) (ga := ga) (pi := pi) (be := be) (bm := bm) (en := en) (sta := sta) (ln := ln) (th := th) (hh := hh) hs (by omega)
    unfold svR svN
    rw [if_neg h, if_neg h]
    unfold F_5saveM_sv at h1
    rw [nI_add] at h1
    exact h1
