/-- what the work of cradle c on volume v may write -/
def FR (c v : Nat) (T T' : Nat → Nat → Int32) : Prop := (∀ j, j ≠ 0 → j ≠ 1 → j ≠ 2 → T' j = T j) ∧ (∀ i, i ≠ v * 7 + 3 → i ≠ v * 7 + 4 → T' 0 i = T 0 i) ∧ (∀ i, i < v * 120 ∨ v * 120 + 120 ≤ i → T' 1 i = T 1 i) ∧ (∀ i, i ≠ c * 5 + 3 → i ≠ c * 5 + 4 → T' 2 i = T 2 i)
theorem FR.refl (c v : Nat) (T : Nat → Nat → Int32) : FR c v T T := ⟨fun _ _ _ _ => rfl, fun _ _ _ => rfl, fun _ _ => rfl, fun _ _ _ => rfl⟩
theorem FR.trans {c v : Nat} {T T' T'' : Nat → Nat → Int32} (h : FR c v T T') (g : FR c v T' T'') : FR c v T T'' := ⟨fun j a b e => (g.1 j a b e).trans (h.1 j a b e), fun i a b => (g.2.1 i a b).trans (h.2.1 i a b), fun i a => (g.2.2.1 i a).trans (h.2.2.1 i a), fun i a b => (g.2.2.2 i a b).trans (h.2.2.2 i a b)⟩
theorem tu_ne {T : Nat → Nat → Int32} {j i : Nat} {f : Nat → Int32} (h : i ≠ j) : tu T j f i = T i := if_neg h
theorem tu_eq {T : Nat → Nat → Int32} {j : Nat} {f : Nat → Int32} : tu T j f j = f := if_pos rfl
theorem FR_scan {c v k : Nat} {T : Nat → Nat → Int32} (hk : k < 40) : FR c v T (F_0scan_T v k T) := by
  unfold F_0scan_T
  split
  · refine ⟨fun j a b e => by rw [tu_ne b, tu_ne a], fun i a b => ?_, fun i a => ?_, fun i a b => rfl⟩
    · show upd _ _ _ _ = _
      rw [upd_ne b]
    · show upd (upd _ _ _) _ _ _ = _
      rw [upd_ne (by omega), upd_ne (by omega)]
  · refine ⟨fun j a b e => by rw [tu_ne b, tu_ne a], fun i a b => ?_, fun i a => ?_, fun i a b => rfl⟩
    · show upd (upd (upd _ _ _) _ _) _ _ _ = _
      rw [upd_ne a, upd_ne b, upd_ne b]
    · show upd (upd _ _ _) _ _ _ = _
      rw [upd_ne (by omega), upd_ne (by omega)]
theorem FR_2 {c v : Nat} {T : Nat → Nat → Int32} {f : Nat → Int32} (h : ∀ i, i ≠ c * 5 + 3 → i ≠ c * 5 + 4 → f i = T 2 i) : FR c v T (tu T 2 f) := ⟨fun j a b e => tu_ne e, fun _ _ _ => rfl, fun _ _ => rfl, h⟩
theorem W_FR {c v : Nat} {m : Int32} : ∀ (f j : Nat) (x : Int32) (y : Nat → Nat → Int32), HLv y v → FR c v y (W_0workFor_6 c v m f j x y).2
  | 0, j, x, y, _ => FR.refl _ _ _
  | f + 1, j, x, y, h => by
    unfold W_0workFor_6
    split
    · exact FR.refl _ _ _
    · split
      · exact FR.refl _ _ _
      · rename_i hn
        obtain ⟨-, hk⟩ := QI_get (by omega) (nl_QI0 h) hn
        split
        · exact FR.refl _ _ _
        · generalize (if nI 1 < y 5 7 + y 5 8 * y 0 (v * 7 + 3) - y 2 (c * 5 + 3) then y 5 7 + y 5 8 * y 0 (v * 7 + 3) - y 2 (c * 5 + 3) else nI 1) = q
          split
          · refine FR.trans (T' := F_0scan_T v (F_0nextLeaf v y).toNatClampNeg (tu y 2 (upd (upd (y 2) (c * 5 + 3) (nI 0)) (c * 5 + 4) (upd (y 2) (c * 5 + 3) (nI 0) (c * 5 + 4) + nI 1)))) (FR.trans (FR_2 (fun i a b => ?_)) (FR_scan hk)) (W_FR f (j + 1) _ _ (HLv_scan (HLv_of (T := y) (v := v) rfl h)))
            rw [upd_ne b, upd_ne a]
          · exact FR_2 (fun i a b => upd_ne a)
theorem wf_FR {c v : Nat} {m : Int32} {T : Nat → Nat → Int32} (h : HLv T v) : FR c v T (F_0workFor_T c v m T) := W_FR 40 0 _ T h
theorem TI_FR {T T' : Nat → Nat → Int32} {nv nc nr ne c v : Nat} (hT : TI T nv nc nr ne) (h : FR c v T T') : TI T' nv nc nr ne := by
  have e5 : T' 5 = T 5 := h.1 5 (by decide) (by decide) (by decide)
  exact TI_of hT (by rw [e5]) (by rw [e5]) (by rw [e5]) (by rw [e5]) (fun v9 h9 => h.2.1 _ (by omega) (by omega)) (fun c9 h9 => by rw [h.2.2.2 _ (by omega) (by omega)]; exact hT.2.2.2.2.2 c9 h9)
theorem isFree_0 {c : Nat} {T : Nat → Nat → Int32} (h : F_0isFree c T = 0) : ¬ T 2 (c * 5 + 2) = -1 := by
  intro e
  unfold F_0isFree at h
  rw [if_pos e] at h
  exact absurd h (by decide)
theorem isFree_1 {c : Nat} {T : Nat → Nat → Int32} (h : ¬ F_0isFree c T = 0) : T 2 (c * 5 + 2) = -1 := by
  unfold F_0isFree at h
  split at h
  · assumption
  · exact absurd rfl h
def F_0copyForTrial_T (c : Nat) (v : Nat) (T : Nat → Nat → Int32) : Nat → Nat → Int32 := (tu (tu (tu T 0 (va_cpy (T 0) (T 0) (v * 7) (12 * 7) 7)) 1 (va_cpy (T 1) (T 1) (v * 120) (12 * 120) 120)) 2 (va_cpy (T 2) (T 2) (c * 5) (4 * 5) 5))
theorem g_X0_copyForTrial_0_4 : ab_oks M_X0_copyForTrial [(0, .aload_n 0, 1, 0, 0, 0, .null), (1, .getfield 14, 3, 0, 0, 89, .null), (4, .iload_n 2, 1, 2, 0, 0, .null), (5, .bipush 12, 2, 0, 0, 0, .int (nI (12)))] = true := by decide +kernel
theorem lk_0_124 : ab_lkV "LeafCradles$Archive" 124 M_X3_copyRow 2 [452, 453, 454, 31, 455] = true := by decide +kernel
theorem dc_X0_copyForTrial_7 : decode (AM.bytes M_X0_copyForTrial) 7 = .ok (.invokevirtual 124, 3) := by decide +kernel
theorem g_X0_copyForTrial_10_4 : ab_oks M_X0_copyForTrial [(10, .aload_n 0, 1, 0, 0, 0, .null), (11, .getfield 20, 3, 0, 1, 90, .null), (14, .iload_n 2, 1, 2, 0, 0, .null), (15, .bipush 12, 2, 0, 0, 0, .int (nI (12)))] = true := by decide +kernel
theorem dc_X0_copyForTrial_17 : decode (AM.bytes M_X0_copyForTrial) 17 = .ok (.invokevirtual 124, 3) := by decide +kernel
theorem g_X0_copyForTrial_20_4 : ab_oks M_X0_copyForTrial [(20, .aload_n 0, 1, 0, 0, 0, .null), (21, .getfield 23, 3, 0, 2, 91, .null), (24, .iload_n 1, 1, 1, 0, 0, .null), (25, .iconst 4, 1, 0, 0, 0, .int (nI (4)))] = true := by decide +kernel
theorem dc_X0_copyForTrial_26 : decode (AM.bytes M_X0_copyForTrial) 26 = .ok (.invokevirtual 124, 3) := by decide +kernel
theorem dc_X0_copyForTrial_29 : decode (AM.bytes M_X0_copyForTrial) 29 = .ok (.return_, 1) := by decide +kernel
set_option maxRecDepth 100000 in
set_option maxHeartbeats 4000000 in
theorem s_0copyForTrial {E : AE} (d : Nat) (c : Nat) (v : Nat)  {o0 t0 p0 m0 u0 l0 : List AC} {T K : Nat → Nat → Int32} {os sc : Int32} (hc : c < 4) (hv : v < 12) : CT E M_X0_copyForTrial (d + 1) [.ref 4097, .int (nI (c)), .int (nI (v))] (hp o0 (ar T K os sc) t0 p0 m0 u0 l0) (.inl none) (hp o0 (ar (F_0copyForTrial_T c v T) K os sc) t0 p0 m0 u0 l0) 0 0 := by
  refine CT.of (L := [some (.ref 4097), some (.int (nI (c))), some (.int (nI (v)))]) rfl rfl ?_
  refine AR.run g_X0_copyForTrial_0_4 7 [some (.ref 4097), some (.int (nI (c))), some (.int (nI (v)))] [.int (nI (12)), .int (nI (v)), .ref 4098] _ [] rfl trivial ?_
  refine AR.callV0 (4098) [.int (nI (v)), .int (nI (12))] [] lk_0_124 dc_X0_copyForTrial_7 rfl rfl (s_3copyRowT0 _ v 12 (by omega) (by omega)) (by first | rfl | (simp only [nI_add, pk_mul]; first | done | rfl)) rfl ?_
  refine AR.cast (h1 := (hp o0 (ar (tu T 0 (va_cpy (T 0) (T 0) (v * 7) (12 * 7) 7)) K os sc) t0 p0 m0 u0 l0)) rfl rfl rfl ?_
  refine AR.run g_X0_copyForTrial_10_4 17 [some (.ref 4097), some (.int (nI (c))), some (.int (nI (v)))] [.int (nI (12)), .int (nI (v)), .ref 4101] _ [] rfl trivial ?_
  refine AR.callV0 (4101) [.int (nI (v)), .int (nI (12))] [] lk_0_124 dc_X0_copyForTrial_17 rfl rfl (s_3copyRowT1 _ v 12 (by omega) (by omega)) (by first | rfl | (simp only [nI_add, pk_mul]; first | done | rfl)) rfl ?_
  refine AR.cast (h1 := (hp o0 (ar (tu (tu T 0 (va_cpy (T 0) (T 0) (v * 7) (12 * 7) 7)) 1 (va_cpy (T 1) (T 1) (v * 120) (12 * 120) 120)) K os sc) t0 p0 m0 u0 l0)) rfl rfl rfl ?_
  refine AR.run g_X0_copyForTrial_20_4 26 [some (.ref 4097), some (.int (nI (c))), some (.int (nI (v)))] [.int (nI (4)), .int (nI (c)), .ref 4104] _ [] rfl trivial ?_
  refine AR.callV0 (4104) [.int (nI (c)), .int (nI (4))] [] lk_0_124 dc_X0_copyForTrial_26 rfl rfl (s_3copyRowT2 _ c 4 (by omega) (by omega)) (by first | rfl | (simp only [nI_add, pk_mul]; first | done | rfl)) rfl ?_
  refine AR.cast (h1 := (hp o0 (ar (tu (tu (tu T 0 (va_cpy (T 0) (T 0) (v * 7) (12 * 7) 7)) 1 (va_cpy (T 1) (T 1) (v * 120) (12 * 120) 120)) 2 (va_cpy (T 2) (T 2) (c * 5) (4 * 5) 5)) K os sc) t0 p0 m0 u0 l0)) rfl rfl rfl ?_
  have e1_0 : F_0copyForTrial_T c v T = (tu (tu (tu T 0 (va_cpy (T 0) (T 0) (v * 7) (12 * 7) 7)) 1 (va_cpy (T 1) (T 1) (v * 120) (12 * 120) 120)) 2 (va_cpy (T 2) (T 2) (c * 5) (4 * 5) 5)) := by rw [F_0copyForTrial_T]
  exact AR.retV dc_X0_copyForTrial_29 rfl (by rw [e1_0])
theorem HLv_trial {c v : Nat} {T : Nat → Nat → Int32} (h : HLv T v) : HLv (F_0copyForTrial_T c v T) 12 := by
  refine HLv_of (T := T) (v := v) ?_ h
  show va_cpy (T 0) (T 0) (v * 7) (12 * 7) 7 (12 * 7 + 2) = _
  rw [pk_cpy_in (by omega) (by omega)]
theorem TI_trial {c v : Nat} {T : Nat → Nat → Int32} {nv nc nr ne : Nat} (hT : TI T nv nc nr ne) : TI (F_0copyForTrial_T c v T) nv nc nr ne := by
  refine TI_of hT rfl rfl rfl rfl (fun v9 h9 => ?_) (fun c9 h9 => ?_)
  · show va_cpy (T 0) (T 0) (v * 7) (12 * 7) 7 (v9 * 7 + 2) = _
    rw [pk_cpy_out (by omega)]
  · show QI 12 (va_cpy (T 2) (T 2) (c * 5) (4 * 5) 5 (c9 * 5 + 2))
    rw [pk_cpy_out (by omega)]
    exact hT.2.2.2.2.2 c9 h9
def F_0scansIfThere (c : Nat) (v : Nat) (m : Int32) (T : Nat → Nat → Int32) : Int32 := ((((F_0workFor_T 4 12 m (F_0copyForTrial_T c v T)) 2) (4 * 5 + 4)) - (((F_0workFor_T 4 12 m (F_0copyForTrial_T c v T)) 2) (c * 5 + 4)))
def F_0scansIfThere_T (c : Nat) (v : Nat) (m : Int32) (T : Nat → Nat → Int32) : Nat → Nat → Int32 := (F_0workFor_T 4 12 m (F_0copyForTrial_T c v T))
theorem g_X0_scansIfThere_0_3 : ab_oks M_X0_scansIfThere [(0, .aload_n 0, 1, 0, 0, 0, .null), (1, .iload_n 1, 1, 1, 0, 0, .null), (2, .iload_n 2, 1, 2, 0, 0, .null)] = true := by decide +kernel
theorem lk_0_127 : ab_lkV "LeafCradles$Archive" 127 M_X0_copyForTrial 2 [448, 450, 12, 30, 451] = true := by decide +kernel
theorem dc_X0_scansIfThere_3 : decode (AM.bytes M_X0_scansIfThere) 3 = .ok (.invokevirtual 127, 3) := by decide +kernel
theorem g_X0_scansIfThere_6_4 : ab_oks M_X0_scansIfThere [(6, .aload_n 0, 1, 0, 0, 0, .null), (7, .iconst 4, 1, 0, 0, 0, .int (nI (4))), (8, .bipush 12, 2, 0, 0, 0, .int (nI (12))), (10, .iload_n 3, 1, 3, 0, 0, .null)] = true := by decide +kernel
theorem lk_0_114 : ab_lkV "LeafCradles$Archive" 114 M_X0_workFor 3 [459, 461, 13, 30, 462] = true := by decide +kernel
theorem dc_X0_scansIfThere_11 : decode (AM.bytes M_X0_scansIfThere) 11 = .ok (.invokevirtual 114, 3) := by decide +kernel
theorem g_X0_scansIfThere_14_5 : ab_oks M_X0_scansIfThere [(14, .pop, 1, 0, 0, 0, .null), (15, .aload_n 0, 1, 0, 0, 0, .null), (16, .getfield 23, 3, 0, 2, 91, .null), (19, .iconst 4, 1, 0, 0, 0, .int (nI (4))), (20, .iconst 4, 1, 0, 0, 0, .int (nI (4)))] = true := by decide +kernel
theorem dc_X0_scansIfThere_21 : decode (AM.bytes M_X0_scansIfThere) 21 = .ok (.invokevirtual 45, 3) := by decide +kernel
theorem g_X0_scansIfThere_24_4 : ab_oks M_X0_scansIfThere [(24, .aload_n 0, 1, 0, 0, 0, .null), (25, .getfield 23, 3, 0, 2, 91, .null), (28, .iload_n 1, 1, 1, 0, 0, .null), (29, .iconst 4, 1, 0, 0, 0, .int (nI (4)))] = true := by decide +kernel
theorem dc_X0_scansIfThere_30 : decode (AM.bytes M_X0_scansIfThere) 30 = .ok (.invokevirtual 45, 3) := by decide +kernel
theorem g_X0_scansIfThere_33_1 : ab_oks M_X0_scansIfThere [(33, .isub, 1, 0, 0, 0, .null)] = true := by decide +kernel
theorem dc_X0_scansIfThere_34 : decode (AM.bytes M_X0_scansIfThere) 34 = .ok (.ireturn, 1) := by decide +kernel
set_option maxRecDepth 100000 in
set_option maxHeartbeats 4000000 in
theorem s_0scansIfThere {E : AE} (d : Nat) (c : Nat) (v : Nat) (m : Int32)  {o0 t0 p0 m0 u0 l0 : List AC} {T K : Nat → Nat → Int32} {os sc : Int32} (hc : c < 4) (hv : v < 12) (hH : HLv T v) : CT E M_X0_scansIfThere (d + 3) [.ref 4097, .int (nI (c)), .int (nI (v)), .int (m)] (hp o0 (ar T K os sc) t0 p0 m0 u0 l0) (.inl (some (.int (F_0scansIfThere c v m T)))) (hp o0 (ar (F_0scansIfThere_T c v m T) K os sc) t0 p0 m0 u0 l0) 0 0 := by
  refine CT.of (L := [some (.ref 4097), some (.int (nI (c))), some (.int (nI (v))), some (.int (m))]) rfl rfl ?_
  refine AR.run g_X0_scansIfThere_0_3 3 [some (.ref 4097), some (.int (nI (c))), some (.int (nI (v))), some (.int (m))] [.int (nI (v)), .int (nI (c)), .ref 4097] _ [] rfl trivial ?_
  refine AR.callV0 (4097) [.int (nI (c)), .int (nI (v))] [] lk_0_127 dc_X0_scansIfThere_3 rfl rfl (s_0copyForTrial _ c v (by omega) (by omega)) (by first | rfl | (simp only [nI_add, pk_mul]; first | done | rfl)) rfl ?_
  refine AR.run g_X0_scansIfThere_6_4 11 [some (.ref 4097), some (.int (nI (c))), some (.int (nI (v))), some (.int (m))] [.int (m), .int (nI (12)), .int (nI (4)), .ref 4097] _ [] rfl trivial ?_
  refine AR.callV1 (4097) [.int (nI (4)), .int (nI (12)), .int (m)] [] lk_0_114 dc_X0_scansIfThere_11 rfl rfl (s_0workFor _ 4 12 m (by omega) (by omega) (HLv_trial (by first | assumption | exact hLT _ (by omega)))) (by first | rfl | (simp only [nI_add, pk_mul]; first | done | rfl)) rfl ?_
  refine AR.run g_X0_scansIfThere_14_5 21 [some (.ref 4097), some (.int (nI (c))), some (.int (nI (v))), some (.int (m))] [.int (nI (4)), .int (nI (4)), .ref 4104] _ [] rfl trivial ?_
  refine AR.callV1 (4104) [.int (nI (4)), .int (nI (4))] [] lk_0_45 dc_X0_scansIfThere_21 rfl rfl (s_3atT2 _ 4 4 (by omega) (by omega)) (by first | rfl | (simp only [nI_add, pk_mul]; first | done | rfl)) rfl ?_
  refine AR.run g_X0_scansIfThere_24_4 30 [some (.ref 4097), some (.int (nI (c))), some (.int (nI (v))), some (.int (m))] [.int (nI (4)), .int (nI (c)), .ref 4104, .int (((F_0workFor_T 4 12 m (F_0copyForTrial_T c v T)) 2) (4 * 5 + 4))] _ [] rfl trivial ?_
  refine AR.callV1 (4104) [.int (nI (c)), .int (nI (4))] [.int (((F_0workFor_T 4 12 m (F_0copyForTrial_T c v T)) 2) (4 * 5 + 4))] lk_0_45 dc_X0_scansIfThere_30 rfl rfl (s_3atT2 _ c 4 (by omega) (by omega)) (by first | rfl | (simp only [nI_add, pk_mul]; first | done | rfl)) rfl ?_
  refine AR.run g_X0_scansIfThere_33_1 34 [some (.ref 4097), some (.int (nI (c))), some (.int (nI (v))), some (.int (m))] [.int ((((F_0workFor_T 4 12 m (F_0copyForTrial_T c v T)) 2) (4 * 5 + 4)) - (((F_0workFor_T 4 12 m (F_0copyForTrial_T c v T)) 2) (c * 5 + 4)))] _ [] rfl trivial ?_
  have e1_0 : F_0scansIfThere c v m T = ((((F_0workFor_T 4 12 m (F_0copyForTrial_T c v T)) 2) (4 * 5 + 4)) - (((F_0workFor_T 4 12 m (F_0copyForTrial_T c v T)) 2) (c * 5 + 4))) := by rw [F_0scansIfThere]
  have e1_1 : F_0scansIfThere_T c v m T = (F_0workFor_T 4 12 m (F_0copyForTrial_T c v T)) := by rw [F_0scansIfThere_T]
  exact AR.retI dc_X0_scansIfThere_34 rfl e1_0.symm (by rw [e1_1])
def F_0scansOnCradleIn (c : Nat) (m : Int32) (T : Nat → Nat → Int32) : Int32 := if (F_0isFree c T) = 0 then (F_0scansIfThere c (((T 2) (c * 5 + 2)).toNatClampNeg) (m - ((T 0) ((((T 2) (c * 5 + 2)).toNatClampNeg) * 7 + 6))) T) else (nI (0))
def F_0scansOnCradleIn_T (c : Nat) (m : Int32) (T : Nat → Nat → Int32) : Nat → Nat → Int32 := if (F_0isFree c T) = 0 then (F_0scansIfThere_T c (((T 2) (c * 5 + 2)).toNatClampNeg) (m - ((T 0) ((((T 2) (c * 5 + 2)).toNatClampNeg) * 7 + 6))) T) else T
theorem g_X0_scansOnCradleIn_0_2 : ab_oks M_X0_scansOnCradleIn [(0, .aload_n 0, 1, 0, 0, 0, .null), (1, .iload_n 1, 1, 1, 0, 0, .null)] = true := by decide +kernel
theorem dc_X0_scansOnCradleIn_2 : decode (AM.bytes M_X0_scansOnCradleIn) 2 = .ok (.invokevirtual 92, 3) := by decide +kernel
theorem dc_X0_scansOnCradleIn_5 : decode (AM.bytes M_X0_scansOnCradleIn) 5 = .ok (.ifCond .eq 5, 3) := by decide +kernel
theorem g_X0_scansOnCradleIn_10_4 : ab_oks M_X0_scansOnCradleIn [(10, .aload_n 0, 1, 0, 0, 0, .null), (11, .getfield 23, 3, 0, 2, 91, .null), (14, .iload_n 1, 1, 1, 0, 0, .null), (15, .iconst 2, 1, 0, 0, 0, .int (nI (2)))] = true := by decide +kernel
theorem dc_X0_scansOnCradleIn_16 : decode (AM.bytes M_X0_scansOnCradleIn) 16 = .ok (.invokevirtual 45, 3) := by decide +kernel
theorem g_X0_scansOnCradleIn_19_1 : ab_oks M_X0_scansOnCradleIn [(19, .istore_n 3, 1, 3, 0, 0, .null)] = true := by decide +kernel
theorem g_X0_scansOnCradleIn_20_8 : ab_oks M_X0_scansOnCradleIn [(20, .aload_n 0, 1, 0, 0, 0, .null), (21, .iload_n 1, 1, 1, 0, 0, .null), (22, .iload_n 3, 1, 3, 0, 0, .null), (23, .iload_n 2, 1, 2, 0, 0, .null), (24, .aload_n 0, 1, 0, 0, 0, .null), (25, .getfield 14, 3, 0, 0, 89, .null), (28, .iload_n 3, 1, 3, 0, 0, .null), (29, .bipush 6, 2, 0, 0, 0, .int (nI (6)))] = true := by decide +kernel
theorem dc_X0_scansOnCradleIn_31 : decode (AM.bytes M_X0_scansOnCradleIn) 31 = .ok (.invokevirtual 45, 3) := by decide +kernel
theorem g_X0_scansOnCradleIn_34_1 : ab_oks M_X0_scansOnCradleIn [(34, .isub, 1, 0, 0, 0, .null)] = true := by decide +kernel
theorem lk_0_130 : ab_lkV "LeafCradles$Archive" 130 M_X0_scansIfThere 3 [444, 445, 446, 30, 447] = true := by decide +kernel
theorem dc_X0_scansOnCradleIn_35 : decode (AM.bytes M_X0_scansOnCradleIn) 35 = .ok (.invokevirtual 130, 3) := by decide +kernel
theorem dc_X0_scansOnCradleIn_38 : decode (AM.bytes M_X0_scansOnCradleIn) 38 = .ok (.ireturn, 1) := by decide +kernel
theorem g_X0_scansOnCradleIn_8_1 : ab_oks M_X0_scansOnCradleIn [(8, .iconst 0, 1, 0, 0, 0, .int (nI (0)))] = true := by decide +kernel
theorem dc_X0_scansOnCradleIn_9 : decode (AM.bytes M_X0_scansOnCradleIn) 9 = .ok (.ireturn, 1) := by decide +kernel
set_option maxRecDepth 100000 in
set_option maxHeartbeats 4000000 in
theorem s_0scansOnCradleIn {E : AE} (d : Nat) (c : Nat) (m : Int32) {nv : Nat} {nc : Nat} {nr : Nat} {ne : Nat}  {o0 t0 p0 m0 u0 l0 : List AC} {T K : Nat → Nat → Int32} {os sc : Int32} (hT : TI T nv nc nr ne) (hc : c < 4) : CT E M_X0_scansOnCradleIn (d + 4) [.ref 4097, .int (nI (c)), .int (m)] (hp o0 (ar T K os sc) t0 p0 m0 u0 l0) (.inl (some (.int (F_0scansOnCradleIn c m T)))) (hp o0 (ar (F_0scansOnCradleIn_T c m T) K os sc) t0 p0 m0 u0 l0) 0 0 := by
  obtain ⟨⟨hnv, h12⟩, ⟨hnc, h4⟩, ⟨hnr, h3⟩, ⟨hne, h60⟩, hLT, hHT⟩ := id hT
  refine CT.of (L := [some (.ref 4097), some (.int (nI (c))), some (.int (m)), none]) rfl rfl ?_
  refine AR.run g_X0_scansOnCradleIn_0_2 2 [some (.ref 4097), some (.int (nI (c))), some (.int (m)), none] [.int (nI (c)), .ref 4097] _ [] rfl trivial ?_
  refine AR.callV1 (4097) [.int (nI (c))] [] lk_0_92 dc_X0_scansOnCradleIn_2 rfl rfl (s_0isFree _ c (by omega)) (by first | rfl | (simp only [nI_add, pk_mul]; first | done | rfl)) rfl ?_
  refine AR.eq (tgt := 10) dc_X0_scansOnCradleIn_5 (by decide) (fun c5_1 => ?_) (fun c5_1 => ?_)
  · refine AR.run g_X0_scansOnCradleIn_10_4 16 [some (.ref 4097), some (.int (nI (c))), some (.int (m)), none] [.int (nI (2)), .int (nI (c)), .ref 4104] _ [] rfl trivial ?_
    refine AR.callV1 (4104) [.int (nI (c)), .int (nI (2))] [] lk_0_45 dc_X0_scansOnCradleIn_16 rfl rfl (s_3atT2 _ c 2 (by omega) (by omega)) (by first | rfl | (simp only [nI_add, pk_mul]; first | done | rfl)) rfl ?_
    refine AR.run g_X0_scansOnCradleIn_19_1 20 [some (.ref 4097), some (.int (nI (c))), some (.int (m)), some (.int ((T 2) (c * 5 + 2)))] [] _ [] rfl trivial ?_
    have hfr := isFree_0 (by assumption)
    obtain ⟨hx9, hy9⟩ := QI_get (by omega) (hHT _ (by omega)) hfr
    refine AR.cast (L' := [some (.ref 4097), some (.int (nI (c))), some (.int (m)), some (.int (nI (((T 2) (c * 5 + 2)).toNatClampNeg)))]) (by rw [← hx9]) rfl rfl ?_
    refine AR.run g_X0_scansOnCradleIn_20_8 31 [some (.ref 4097), some (.int (nI (c))), some (.int (m)), some (.int (nI (((T 2) (c * 5 + 2)).toNatClampNeg)))] [.int (nI (6)), .int (nI (((T 2) (c * 5 + 2)).toNatClampNeg)), .ref 4098, .int (m), .int (nI (((T 2) (c * 5 + 2)).toNatClampNeg)), .int (nI (c)), .ref 4097] _ [] rfl trivial ?_
    refine AR.callV1 (4098) [.int (nI (((T 2) (c * 5 + 2)).toNatClampNeg)), .int (nI (6))] [.int (m), .int (nI (((T 2) (c * 5 + 2)).toNatClampNeg)), .int (nI (c)), .ref 4097] lk_0_45 dc_X0_scansOnCradleIn_31 rfl rfl (s_3atT0 _ (((T 2) (c * 5 + 2)).toNatClampNeg) 6 (by omega) (by omega)) (by first | rfl | (simp only [nI_add, pk_mul]; first | done | rfl)) rfl ?_
    refine AR.run g_X0_scansOnCradleIn_34_1 35 [some (.ref 4097), some (.int (nI (c))), some (.int (m)), some (.int (nI (((T 2) (c * 5 + 2)).toNatClampNeg)))] [.int (m - ((T 0) ((((T 2) (c * 5 + 2)).toNatClampNeg) * 7 + 6))), .int (nI (((T 2) (c * 5 + 2)).toNatClampNeg)), .int (nI (c)), .ref 4097] _ [] rfl trivial ?_
    refine AR.callV1 (4097) [.int (nI (c)), .int (nI (((T 2) (c * 5 + 2)).toNatClampNeg)), .int (m - ((T 0) ((((T 2) (c * 5 + 2)).toNatClampNeg) * 7 + 6)))] [] lk_0_130 dc_X0_scansOnCradleIn_35 rfl rfl (s_0scansIfThere _ c (((T 2) (c * 5 + 2)).toNatClampNeg) (m - ((T 0) ((((T 2) (c * 5 + 2)).toNatClampNeg) * 7 + 6))) (by omega) (by omega) (by first | assumption | exact hLT _ (by omega))) (by first | rfl | (simp only [nI_add, pk_mul]; first | done | rfl)) rfl ?_
    have e2_0 : F_0scansOnCradleIn c m T = (F_0scansIfThere c (((T 2) (c * 5 + 2)).toNatClampNeg) (m - ((T 0) ((((T 2) (c * 5 + 2)).toNatClampNeg) * 7 + 6))) T) := by rw [F_0scansOnCradleIn, if_pos c5_1]
    have e2_1 : F_0scansOnCradleIn_T c m T = (F_0scansIfThere_T c (((T 2) (c * 5 + 2)).toNatClampNeg) (m - ((T 0) ((((T 2) (c * 5 + 2)).toNatClampNeg) * 7 + 6))) T) := by rw [F_0scansOnCradleIn_T, if_pos c5_1]
    exact AR.retI dc_X0_scansOnCradleIn_38 rfl e2_0.symm (by rw [e2_1])
  · refine AR.run g_X0_scansOnCradleIn_8_1 9 [some (.ref 4097), some (.int (nI (c))), some (.int (m)), none] [.int (nI (0))] _ [] rfl trivial ?_
    have e3_0 : F_0scansOnCradleIn c m T = (nI (0)) := by rw [F_0scansOnCradleIn, if_neg c5_1]
    have e3_1 : F_0scansOnCradleIn_T c m T = T := by rw [F_0scansOnCradleIn_T, if_neg c5_1]
    exact AR.retI dc_X0_scansOnCradleIn_9 rfl e3_0.symm (by rw [e3_1])
theorem TI_scansIf {c v : Nat} {m : Int32} {T : Nat → Nat → Int32} {nv nc nr ne : Nat} (hT : TI T nv nc nr ne) (hv : v < 12) : TI (F_0scansIfThere_T c v m T) nv nc nr ne := TI_FR (TI_trial hT) (wf_FR (HLv_trial (hT.2.2.2.2.1 v hv)))
theorem TI_scansOn {c : Nat} {m : Int32} {T : Nat → Nat → Int32} {nv nc nr ne : Nat} (hT : TI T nv nc nr ne) (hc : c < 4) : TI (F_0scansOnCradleIn_T c m T) nv nc nr ne := by
  unfold F_0scansOnCradleIn_T
  split
  · rename_i h
    obtain ⟨-, h2⟩ := QI_get (by omega) (hT.2.2.2.2.2 c hc) (isFree_0 h)
    exact TI_scansIf hT h2
  · exact hT
def B_0scansIn_4 (m : Int32) (j4 : Nat) (x4_2 : Int32) (y4_ar0 : Nat → Nat → Int32) : (Int32) × (Nat → Nat → Int32) := (x4_2 + (F_0scansOnCradleIn j4 m y4_ar0), F_0scansOnCradleIn_T j4 m y4_ar0)
def L_0scansIn_4 (m : Int32) (T : Nat → Nat → Int32) : Nat → (Int32) × (Nat → Nat → Int32)
  | 0 => (nI (0), T)
  | j + 1 => B_0scansIn_4 m j ((L_0scansIn_4 m T  j).1) ((L_0scansIn_4 m T  j).2)
theorem TI_sIn {m : Int32} {T : Nat → Nat → Int32} {nv nc nr ne : Nat} (hT : TI T nv nc nr ne) (h4 : nc ≤ 4) : ∀ j : Nat, j ≤ 4 → TI (L_0scansIn_4 m T j).2 nv nc nr ne
  | 0, _ => hT
  | j + 1, h => TI_scansOn (TI_sIn hT h4 j (by omega)) (by omega)
def F_0scansIn (m : Int32) (nc : Nat) (T : Nat → Nat → Int32) : Int32 := ((L_0scansIn_4 m T nc).1)
def F_0scansIn_T (m : Int32) (nc : Nat) (T : Nat → Nat → Int32) : Nat → Nat → Int32 := ((L_0scansIn_4 m T nc).2)
theorem g_X0_scansIn_0_4 : ab_oks M_X0_scansIn [(0, .iconst 0, 1, 0, 0, 0, .int (nI (0))), (1, .istore_n 2, 1, 2, 0, 0, .null), (2, .iconst 0, 1, 0, 0, 0, .int (nI (0))), (3, .istore_n 3, 1, 3, 0, 0, .null)] = true := by decide +kernel
theorem g_X0_scansIn_4_3 : ab_oks M_X0_scansIn [(4, .iload_n 3, 1, 3, 0, 0, .null), (5, .aload_n 0, 1, 0, 0, 0, .null), (6, .iconst 1, 1, 0, 0, 0, .int (nI (1)))] = true := by decide +kernel
theorem dc_X0_scansIn_7 : decode (AM.bytes M_X0_scansIn) 7 = .ok (.invokevirtual 56, 3) := by decide +kernel
theorem dc_X0_scansIn_10 : decode (AM.bytes M_X0_scansIn) 10 = .ok (.if_icmp .ge 18, 3) := by decide +kernel
theorem g_X0_scansIn_13_4 : ab_oks M_X0_scansIn [(13, .iload_n 2, 1, 2, 0, 0, .null), (14, .aload_n 0, 1, 0, 0, 0, .null), (15, .iload_n 3, 1, 3, 0, 0, .null), (16, .iload_n 1, 1, 1, 0, 0, .null)] = true := by decide +kernel
theorem lk_0_133 : ab_lkV "LeafCradles$Archive" 133 M_X0_scansOnCradleIn 2 [440, 441, 442, 30, 443] = true := by decide +kernel
theorem dc_X0_scansIn_17 : decode (AM.bytes M_X0_scansIn) 17 = .ok (.invokevirtual 133, 3) := by decide +kernel
theorem g_X0_scansIn_20_4 : ab_oks M_X0_scansIn [(20, .iadd, 1, 0, 0, 0, .null), (21, .istore_n 2, 1, 2, 0, 0, .null), (22, .iinc 3 1, 3, 3, 0, 0, .int (nI (1))), (25, .goto (-21), 3, 4, 0, 0, .null)] = true := by decide +kernel
theorem g_X0_scansIn_28_1 : ab_oks M_X0_scansIn [(28, .iload_n 2, 1, 2, 0, 0, .null)] = true := by decide +kernel
theorem dc_X0_scansIn_29 : decode (AM.bytes M_X0_scansIn) 29 = .ok (.ireturn, 1) := by decide +kernel
set_option maxRecDepth 100000 in
set_option maxHeartbeats 4000000 in
theorem s_0scansIn {E : AE} (d : Nat) (m : Int32) {nv : Nat} {nc : Nat} {nr : Nat} {ne : Nat}  {o0 t0 p0 m0 u0 l0 : List AC} {T K : Nat → Nat → Int32} {os sc : Int32} (hT : TI T nv nc nr ne) : CT E M_X0_scansIn (d + 5) [.ref 4097, .int (m)] (hp o0 (ar T K os sc) t0 p0 m0 u0 l0) (.inl (some (.int (F_0scansIn m nc T)))) (hp o0 (ar (F_0scansIn_T m nc T) K os sc) t0 p0 m0 u0 l0) 0 0 := by
  obtain ⟨⟨hnv, h12⟩, ⟨hnc, h4⟩, ⟨hnr, h3⟩, ⟨hne, h60⟩, hLT, hHT⟩ := id hT
  refine CT.of (L := [some (.ref 4097), some (.int (m)), none, none]) rfl rfl ?_
  refine AR.run g_X0_scansIn_0_4 4 [some (.ref 4097), some (.int (m)), some (.int (nI (0))), some (.int (nI (0)))] [] _ [] rfl trivial ?_
  refine AR.cast (L' := [some (.ref 4097), some (.int (m)), some (.int ((L_0scansIn_4 m T 0).1)), some (.int (nI (0)))]) (by first | rfl | (rw [L_0scansIn_4])) rfl (by first | rfl | (rw [L_0scansIn_4])) (AR.loopN nc (fun j4 => [some (.ref 4097), some (.int (m)), some (.int ((L_0scansIn_4 m T j4).1)), some (.int (nI (j4)))]) (fun j4 => (hp o0 (ar ((L_0scansIn_4 m T j4).2) K os sc) t0 p0 m0 u0 l0)) (fun j4 => True) (fun j4 hj4 hI4 ih4 => ?_) (fun hI4 => ?_) 0 (by omega) (by first | trivial | omega))
  · have hA_0 : TI ((L_0scansIn_4 m T j4).2) nv nc nr ne := TI_sIn hT h4 j4 (by omega)
    refine AR.run g_X0_scansIn_4_3 7 [some (.ref 4097), some (.int (m)), some (.int ((L_0scansIn_4 m T j4).1)), some (.int (nI (j4)))] [.int (nI (1)), .ref 4097, .int (nI (j4))] _ [] rfl trivial ?_
    refine AR.callV1 (4097) [.int (nI (1))] [.int (nI (j4))] lk_0_56 dc_X0_scansIn_7 rfl rfl (s_0number _ 1 (by omega)) (by first | rfl | (simp only [nI_add, pk_mul]; first | done | rfl)) rfl ?_
    refine AR.top hA_0.2.1.1 ?_
    refine AR.ge2N (tgt := 28) (a := j4) (b := nc) dc_X0_scansIn_10 (by decide) (by first | rfl | (simp only [nI_add, pk_mul]; first | done | rfl)) (by first | rfl | (simp only [nI_add, pk_mul]; first | done | rfl)) (by omega) (by omega) (fun c10_1 => absurd c10_1 (by omega)) (fun c10_1 => ?_)
    refine AR.run g_X0_scansIn_13_4 17 [some (.ref 4097), some (.int (m)), some (.int ((L_0scansIn_4 m T j4).1)), some (.int (nI (j4)))] [.int (m), .int (nI (j4)), .ref 4097, .int ((L_0scansIn_4 m T j4).1)] _ [] rfl trivial ?_
    refine AR.callV1 (4097) [.int (nI (j4)), .int (m)] [.int ((L_0scansIn_4 m T j4).1)] lk_0_133 dc_X0_scansIn_17 rfl rfl (s_0scansOnCradleIn _ j4 m hA_0 (by omega)) (by first | rfl | (simp only [nI_add, pk_mul]; first | done | rfl)) rfl ?_
    refine AR.run g_X0_scansIn_20_4 4 [some (.ref 4097), some (.int (m)), some (.int (((L_0scansIn_4 m T j4).1) + (F_0scansOnCradleIn j4 m ((L_0scansIn_4 m T j4).2)))), some (.int ((nI (j4)) + (nI (1))))] [] _ [] rfl trivial ?_
    have e2 : L_0scansIn_4 m T (j4 + 1) = (((L_0scansIn_4 m T j4).1) + (F_0scansOnCradleIn j4 m ((L_0scansIn_4 m T j4).2)), F_0scansOnCradleIn_T j4 m ((L_0scansIn_4 m T j4).2)) := by rw [L_0scansIn_4, B_0scansIn_4]
    exact AR.cast (L' := [some (.ref 4097), some (.int (m)), some (.int ((L_0scansIn_4 m T (j4 + 1)).1)), some (.int (nI (j4 + 1)))]) (by rw [e2, nI_add]) rfl (by rw [e2]) (ih4 (by first | trivial | omega))
  · have hA_2 : TI ((L_0scansIn_4 m T nc).2) nv nc nr ne := TI_sIn hT h4 nc (by omega)
    refine AR.run g_X0_scansIn_4_3 7 [some (.ref 4097), some (.int (m)), some (.int ((L_0scansIn_4 m T nc).1)), some (.int (nI (nc)))] [.int (nI (1)), .ref 4097, .int (nI (nc))] _ [] rfl trivial ?_
    refine AR.callV1 (4097) [.int (nI (1))] [.int (nI (nc))] lk_0_56 dc_X0_scansIn_7 rfl rfl (s_0number _ 1 (by omega)) (by first | rfl | (simp only [nI_add, pk_mul]; first | done | rfl)) rfl ?_
    refine AR.top hA_2.2.1.1 ?_
    refine AR.ge2N (tgt := 28) (a := nc) (b := nc) dc_X0_scansIn_10 (by decide) (by first | rfl | (simp only [nI_add, pk_mul]; first | done | rfl)) (by first | rfl | (simp only [nI_add, pk_mul]; first | done | rfl)) (by omega) (by omega) (fun c10_3 => ?_) (fun c10_3 => absurd c10_3 (by omega))
    refine AR.run g_X0_scansIn_28_1 29 [some (.ref 4097), some (.int (m)), some (.int ((L_0scansIn_4 m T nc).1)), some (.int (nI (nc)))] [.int ((L_0scansIn_4 m T nc).1)] _ [] rfl trivial ?_
    have e4_0 : F_0scansIn m nc T = ((L_0scansIn_4 m T nc).1) := by rw [F_0scansIn]
    have e4_1 : F_0scansIn_T m nc T = ((L_0scansIn_4 m T nc).2) := by rw [F_0scansIn_T]
    exact AR.retI dc_X0_scansIn_29 rfl e4_0.symm (by rw [e4_1])
