def BS (s : UInt64) : Prop := ∃ e t : Nat, s = fp_mk e t ∧ 1014 ≤ e ∧ e ≤ 1023 ∧ t < 4503599627370496
theorem BS_mul {s : UInt64} (h : BS s) (hc : ¬ 0 ≤ Op.cmpValue (FP.dcmp s FP.dconst1) .g) : vf_n64 (FP.dmul s 4611686018427387904) ∧ BS (FP.dmul s 4611686018427387904) := by
  obtain ⟨e, t, rfl, h1, h2, h3⟩ := h
  have h4 : ¬ 1023 ≤ e := fun q => hc ((fp_lt1 (by omega) (by omega) h3).mpr q)
  rw [fp_dmul2 (by omega) (by omega) h3]
  exact ⟨fp_vf (fp_ne (by omega) (by omega) h3 (fp_mkN (by omega) h3)), e + 1, t, rfl, by omega, by omega, h3⟩
theorem BS_sub {s : UInt64} (h : BS s) : vf_n64 (FP.dsub s FP.dconst1) ∧ vf_n64 (FP.dmul (FP.dsub s FP.dconst1) 4841369599423283200) := by
  obtain ⟨e, t, rfl, h1, h2, h3⟩ := h
  have vx := fp_val (by omega) (by omega) h3 (fp_mkN (e := e) (by omega) h3)
  have v1 : FP.Core.val64 FP.dconst1 = .fin false 4503599627370496 (-52) := by decide +kernel
  have v3 : FP.Core.val64 4841369599423283200 = .fin false 4503599627370496 0 := by decide +kernel
  obtain ⟨s9, c9, q9, h9⟩ : ∃ s c q, FP.Core.exactSum (FP.Core.val64 (fp_mk e t)) (FP.Core.negate (FP.Core.val64 FP.dconst1)) = .fin s c q := by
    rw [vx, v1]
    exact ⟨_, _, _, rfl⟩
  have vs : FP.Core.val64 (FP.dsub (fp_mk e t) FP.dconst1) = FP.Core.roundRatio FP.Core.b64 s9 c9 1 q9 := by
    show FP.Core.val64 (FP.Core.dsub _ _) = _
    rw [FP.Core.val64_dsub, h9]
    rfl
  refine ⟨fp_vf (by rw [vs]; exact FP.Core.roundRatio_ne_nan _ _ _ _ _), fp_vf ?_⟩
  show FP.Core.val64 (FP.Core.dmul _ _) ≠ _
  rw [FP.Core.val64_dmul, vs, v3]
  rcases FP.Core.roundRatio_cases FP.Core.b64 s9 c9 1 q9 with ⟨c, q, h⟩ | h
  · rw [h]
    exact FP.Core.roundRatio_ne_nan _ _ _ _ _
  · rw [h]
    have e9 : FP.Core.exactProduct (.inf s9) (.fin false 4503599627370496 0) = .inf (s9 != false) := rfl
    rw [e9]
    exact fun q => by cases q
theorem BS_0 {x : UInt64} (h : SHd x) (hc : 0 < Op.cmpValue (FP.dcmp x FP.dconst0) .g) : BS x := by
  rcases h with rfl | ⟨e, t, h1, h2, h3, rfl⟩
  · exact absurd hc (by decide +kernel)
  · exact ⟨e, t, rfl, h1, h2, h3⟩
def W_4bitsOfShare_18 : Nat → Nat → (UInt64) → (Int64) → (Int64)
  | 0, j18, x18_2, x18_4 => ((x18_4 <<< (Int32.toInt64 (nI (52)) &&& 63)) ||| (FP.d2l (FP.dmul (FP.dsub x18_2 (FP.dconst1)) 4841369599423283200)))
  | f18 + 1, j18, x18_2, x18_4 => if 0 ≤ (Op.cmpValue (FP.dcmp x18_2 (FP.dconst1)) .g) then ((x18_4 <<< (Int32.toInt64 (nI (52)) &&& 63)) ||| (FP.d2l (FP.dmul (FP.dsub x18_2 (FP.dconst1)) 4841369599423283200))) else W_4bitsOfShare_18  f18 (j18 + 1) (FP.dmul x18_2 4611686018427387904) (x18_4 - 1)
def F_4bitsOfShare (x : UInt64) : Int64 := if 0 < (Op.cmpValue (FP.dcmp x (FP.dconst0)) .g) then (W_4bitsOfShare_18  1022 0 x 1023) else 0
theorem g_X4_bitsOfShare_0_3 : ab_oks M_X4_bitsOfShare [(0, .dload_n 0, 1, 0, 0, 0, .null), (1, .dconst 0, 1, 0, 0, 0, .double (FP.dconst0)), (2, .dcmp .g, 1, 0, 0, 0, .null)] = true := by decide +kernel
theorem dc_X4_bitsOfShare_3 : decode (AM.bytes M_X4_bitsOfShare) 3 = .ok (.ifCond .gt 5, 3) := by decide +kernel
theorem g_X4_bitsOfShare_8_6 : ab_oks M_X4_bitsOfShare [(8, .dload_n 0, 1, 0, 0, 0, .null), (9, .dstore_n 2, 1, 2, 0, 0, .null), (10, .ldc2_w 239, 3, 0, 0, 508, .long (1023)), (13, .lstore 4, 2, 4, 0, 0, .null), (15, .iconst 0, 1, 0, 0, 0, .int (nI (0))), (16, .istore 6, 2, 6, 0, 0, .null)] = true := by decide +kernel
theorem g_X4_bitsOfShare_18_2 : ab_oks M_X4_bitsOfShare [(18, .iload 6, 2, 6, 0, 0, .null), (20, .sipush 1022, 3, 0, 0, 0, .int (nI (1022)))] = true := by decide +kernel
theorem dc_X4_bitsOfShare_23 : decode (AM.bytes M_X4_bitsOfShare) 23 = .ok (.if_icmp .ge 27, 3) := by decide +kernel
theorem g_X4_bitsOfShare_50_2 : ab_oks M_X4_bitsOfShare [(50, .dload_n 2, 1, 2, 0, 0, .null), (51, .dconst 1, 1, 0, 0, 0, .double (FP.dconst1))] = true := by decide +kernel
theorem g_X4_bitsOfShare_52_1 : ab_oks M_X4_bitsOfShare [(52, .dsub, 1, 0, 0, 0, .null)] = true := by decide +kernel
theorem g_X4_bitsOfShare_53_1 : ab_oks M_X4_bitsOfShare [(53, .ldc2_w 243, 3, 0, 0, 510, .double (4841369599423283200))] = true := by decide +kernel
theorem g_X4_bitsOfShare_56_1 : ab_oks M_X4_bitsOfShare [(56, .dmul, 1, 0, 0, 0, .null)] = true := by decide +kernel
theorem g_X4_bitsOfShare_57_7 : ab_oks M_X4_bitsOfShare [(57, .d2l, 1, 0, 0, 0, .null), (58, .lstore 6, 2, 6, 0, 0, .null), (60, .lload 4, 2, 4, 0, 0, .null), (62, .bipush 52, 2, 0, 0, 0, .int (nI (52))), (64, .lshl, 1, 0, 0, 0, .null), (65, .lload 6, 2, 6, 0, 0, .null), (67, .lor, 1, 0, 0, 0, .null)] = true := by decide +kernel
theorem dc_X4_bitsOfShare_68 : decode (AM.bytes M_X4_bitsOfShare) 68 = .ok (.lreturn, 1) := by decide +kernel
theorem g_X4_bitsOfShare_26_3 : ab_oks M_X4_bitsOfShare [(26, .dload_n 2, 1, 2, 0, 0, .null), (27, .dconst 1, 1, 0, 0, 0, .double (FP.dconst1)), (28, .dcmp .g, 1, 0, 0, 0, .null)] = true := by decide +kernel
theorem dc_X4_bitsOfShare_29 : decode (AM.bytes M_X4_bitsOfShare) 29 = .ok (.ifCond .ge 21, 3) := by decide +kernel
theorem g_X4_bitsOfShare_32_2 : ab_oks M_X4_bitsOfShare [(32, .dload_n 2, 1, 2, 0, 0, .null), (33, .ldc2_w 241, 3, 0, 0, 509, .double (4611686018427387904))] = true := by decide +kernel
theorem g_X4_bitsOfShare_36_1 : ab_oks M_X4_bitsOfShare [(36, .dmul, 1, 0, 0, 0, .null)] = true := by decide +kernel
theorem g_X4_bitsOfShare_37_7 : ab_oks M_X4_bitsOfShare [(37, .dstore_n 2, 1, 2, 0, 0, .null), (38, .lload 4, 2, 4, 0, 0, .null), (40, .lconst 1, 1, 0, 0, 0, .long (1)), (41, .lsub, 1, 0, 0, 0, .null), (42, .lstore 4, 2, 4, 0, 0, .null), (44, .iinc 6 1, 3, 6, 0, 0, .int (nI (1))), (47, .goto (-29), 3, 18, 0, 0, .null)] = true := by decide +kernel
theorem g_X4_bitsOfShare_6_1 : ab_oks M_X4_bitsOfShare [(6, .lconst 0, 1, 0, 0, 0, .long (0))] = true := by decide +kernel
theorem dc_X4_bitsOfShare_7 : decode (AM.bytes M_X4_bitsOfShare) 7 = .ok (.lreturn, 1) := by decide +kernel
set_option maxRecDepth 100000 in
set_option maxHeartbeats 4000000 in
theorem s_4bitsOfShare {E : AE} (d : Nat) (x : UInt64)  {h : AH} (hsh : SHd x) : CT E M_X4_bitsOfShare d [.double (x)] h (.inl (some (.long (F_4bitsOfShare x)))) h 0 0 := by
  refine CT.of (L := [some (.double (x)), none, none, none, none, none, none, none]) rfl rfl ?_
  refine AR.run g_X4_bitsOfShare_0_3 3 [some (.double (x)), none, none, none, none, none, none, none] [.int (Op.cmpValue (FP.dcmp x (FP.dconst0)) .g)] _ [] rfl trivial ?_
  refine AR.gt (tgt := 8) dc_X4_bitsOfShare_3 (by decide) (fun c3_1 => ?_) (fun c3_1 => ?_)
  · refine AR.run g_X4_bitsOfShare_8_6 18 [some (.double (x)), none, some (.double (x)), none, some (.long (1023)), none, some (.int (nI (0))), none] [] _ [] rfl trivial ?_
    have hW : ∀ (f18 j18 : Nat) (x18_2 : UInt64) (x18_4 : Int64), j18 + f18 = 1022 → BS x18_2 → AR E M_X4_bitsOfShare d 18 [some (.double (x)), none, some (.double (x18_2)), none, some (.long (x18_4)), none, some (.int (nI (j18))), none] [] h (.inl (some (.long (W_4bitsOfShare_18  f18 j18 x18_2 x18_4)))) h 0 0 := by
      intro f18
      induction f18 with
      | zero => 
        intro j18 x18_2 x18_4 hj18 hI18
        obtain ⟨hz1, hz2⟩ := BS_sub hI18
        have hnan := fun (q : ¬ 0 ≤ Op.cmpValue (FP.dcmp x18_2 FP.dconst1) .g) => (BS_mul hI18 q).1
        refine AR.run g_X4_bitsOfShare_18_2 23 [some (.double (x)), none, some (.double (x18_2)), none, some (.long (x18_4)), none, some (.int (nI (j18))), none] [.int (nI (1022)), .int (nI (j18))] _ [] rfl trivial ?_
        refine AR.ge2N (tgt := 50) (a := j18) (b := 1022) dc_X4_bitsOfShare_23 (by decide) (by first | rfl | (simp only [nI_add, pk_mul]; first | done | rfl)) (by first | rfl | (simp only [nI_add, pk_mul]; first | done | rfl)) (by omega) (by omega) (fun c23_2 => ?_) (fun c23_2 => absurd c23_2 (by omega))
        refine AR.run g_X4_bitsOfShare_50_2 52 [some (.double (x)), none, some (.double (x18_2)), none, some (.long (x18_4)), none, some (.int (nI (j18))), none] [.double (FP.dconst1), .double (x18_2)] _ [] rfl trivial ?_
        refine AR.run g_X4_bitsOfShare_52_1 53 [some (.double (x)), none, some (.double (x18_2)), none, some (.long (x18_4)), none, some (.int (nI (j18))), none] [.double (FP.dsub x18_2 (FP.dconst1))] _ [vf_n64 (FP.dsub x18_2 (FP.dconst1))] rfl (show vf_n64 (FP.dsub x18_2 (FP.dconst1)) from by first | assumption | exact hnan (by assumption)) ?_
        refine AR.run g_X4_bitsOfShare_53_1 56 [some (.double (x)), none, some (.double (x18_2)), none, some (.long (x18_4)), none, some (.int (nI (j18))), none] [.double (4841369599423283200), .double (FP.dsub x18_2 (FP.dconst1))] _ [] rfl trivial ?_
        refine AR.run g_X4_bitsOfShare_56_1 57 [some (.double (x)), none, some (.double (x18_2)), none, some (.long (x18_4)), none, some (.int (nI (j18))), none] [.double (FP.dmul (FP.dsub x18_2 (FP.dconst1)) 4841369599423283200)] _ [vf_n64 (FP.dmul (FP.dsub x18_2 (FP.dconst1)) 4841369599423283200)] rfl (show vf_n64 (FP.dmul (FP.dsub x18_2 (FP.dconst1)) 4841369599423283200) from by first | assumption | exact hnan (by assumption)) ?_
        refine AR.run g_X4_bitsOfShare_57_7 68 [some (.double (x)), none, some (.double (x18_2)), none, some (.long (x18_4)), none, some (.long (FP.d2l (FP.dmul (FP.dsub x18_2 (FP.dconst1)) 4841369599423283200))), none] [.long ((x18_4 <<< (Int32.toInt64 (nI (52)) &&& 63)) ||| (FP.d2l (FP.dmul (FP.dsub x18_2 (FP.dconst1)) 4841369599423283200)))] _ [] rfl trivial ?_
        have e3 : W_4bitsOfShare_18  0 j18 x18_2 x18_4 = ((x18_4 <<< (Int32.toInt64 (nI (52)) &&& 63)) ||| (FP.d2l (FP.dmul (FP.dsub x18_2 (FP.dconst1)) 4841369599423283200))) := by rw [W_4bitsOfShare_18]
        rw [e3]
        exact AR.retL dc_X4_bitsOfShare_68 rfl rfl rfl
      | succ f18 ih18 => 
        intro j18 x18_2 x18_4 hj18 hI18
        obtain ⟨hz1, hz2⟩ := BS_sub hI18
        have hnan := fun (q : ¬ 0 ≤ Op.cmpValue (FP.dcmp x18_2 FP.dconst1) .g) => (BS_mul hI18 q).1
        refine AR.run g_X4_bitsOfShare_18_2 23 [some (.double (x)), none, some (.double (x18_2)), none, some (.long (x18_4)), none, some (.int (nI (j18))), none] [.int (nI (1022)), .int (nI (j18))] _ [] rfl trivial ?_
        refine AR.ge2N (tgt := 50) (a := j18) (b := 1022) dc_X4_bitsOfShare_23 (by decide) (by first | rfl | (simp only [nI_add, pk_mul]; first | done | rfl)) (by first | rfl | (simp only [nI_add, pk_mul]; first | done | rfl)) (by omega) (by omega) (fun c23_4 => absurd c23_4 (by omega)) (fun c23_4 => ?_)
        refine AR.run g_X4_bitsOfShare_26_3 29 [some (.double (x)), none, some (.double (x18_2)), none, some (.long (x18_4)), none, some (.int (nI (j18))), none] [.int (Op.cmpValue (FP.dcmp x18_2 (FP.dconst1)) .g)] _ [] rfl trivial ?_
        refine AR.ge (tgt := 50) dc_X4_bitsOfShare_29 (by decide) (fun c29_5 => ?_) (fun c29_5 => ?_)
        · refine AR.run g_X4_bitsOfShare_50_2 52 [some (.double (x)), none, some (.double (x18_2)), none, some (.long (x18_4)), none, some (.int (nI (j18))), none] [.double (FP.dconst1), .double (x18_2)] _ [] rfl trivial ?_
          refine AR.run g_X4_bitsOfShare_52_1 53 [some (.double (x)), none, some (.double (x18_2)), none, some (.long (x18_4)), none, some (.int (nI (j18))), none] [.double (FP.dsub x18_2 (FP.dconst1))] _ [vf_n64 (FP.dsub x18_2 (FP.dconst1))] rfl (show vf_n64 (FP.dsub x18_2 (FP.dconst1)) from by first | assumption | exact hnan (by assumption)) ?_
          refine AR.run g_X4_bitsOfShare_53_1 56 [some (.double (x)), none, some (.double (x18_2)), none, some (.long (x18_4)), none, some (.int (nI (j18))), none] [.double (4841369599423283200), .double (FP.dsub x18_2 (FP.dconst1))] _ [] rfl trivial ?_
          refine AR.run g_X4_bitsOfShare_56_1 57 [some (.double (x)), none, some (.double (x18_2)), none, some (.long (x18_4)), none, some (.int (nI (j18))), none] [.double (FP.dmul (FP.dsub x18_2 (FP.dconst1)) 4841369599423283200)] _ [vf_n64 (FP.dmul (FP.dsub x18_2 (FP.dconst1)) 4841369599423283200)] rfl (show vf_n64 (FP.dmul (FP.dsub x18_2 (FP.dconst1)) 4841369599423283200) from by first | assumption | exact hnan (by assumption)) ?_
          refine AR.run g_X4_bitsOfShare_57_7 68 [some (.double (x)), none, some (.double (x18_2)), none, some (.long (x18_4)), none, some (.long (FP.d2l (FP.dmul (FP.dsub x18_2 (FP.dconst1)) 4841369599423283200))), none] [.long ((x18_4 <<< (Int32.toInt64 (nI (52)) &&& 63)) ||| (FP.d2l (FP.dmul (FP.dsub x18_2 (FP.dconst1)) 4841369599423283200)))] _ [] rfl trivial ?_
          have e6 : W_4bitsOfShare_18  (f18 + 1) j18 x18_2 x18_4 = ((x18_4 <<< (Int32.toInt64 (nI (52)) &&& 63)) ||| (FP.d2l (FP.dmul (FP.dsub x18_2 (FP.dconst1)) 4841369599423283200))) := by rw [W_4bitsOfShare_18, if_pos c29_5]
          rw [e6]
          exact AR.retL dc_X4_bitsOfShare_68 rfl rfl rfl
        · refine AR.run g_X4_bitsOfShare_32_2 36 [some (.double (x)), none, some (.double (x18_2)), none, some (.long (x18_4)), none, some (.int (nI (j18))), none] [.double (4611686018427387904), .double (x18_2)] _ [] rfl trivial ?_
          refine AR.run g_X4_bitsOfShare_36_1 37 [some (.double (x)), none, some (.double (x18_2)), none, some (.long (x18_4)), none, some (.int (nI (j18))), none] [.double (FP.dmul x18_2 4611686018427387904)] _ [vf_n64 (FP.dmul x18_2 4611686018427387904)] rfl (show vf_n64 (FP.dmul x18_2 4611686018427387904) from by first | assumption | exact hnan (by assumption)) ?_
          refine AR.run g_X4_bitsOfShare_37_7 18 [some (.double (x)), none, some (.double (FP.dmul x18_2 4611686018427387904)), none, some (.long (x18_4 - 1)), none, some (.int ((nI (j18)) + (nI (1)))), none] [] _ [] rfl trivial ?_
          have e7 : W_4bitsOfShare_18  (f18 + 1) j18 x18_2 x18_4 = W_4bitsOfShare_18  f18 (j18 + 1) (FP.dmul x18_2 4611686018427387904) (x18_4 - 1) := by rw [W_4bitsOfShare_18, if_neg c29_5]
          rw [e7]
          exact AR.cast (L' := [some (.double (x)), none, some (.double (FP.dmul x18_2 4611686018427387904)), none, some (.long (x18_4 - 1)), none, some (.int (nI (j18 + 1))), none]) (by first | rfl | rw [nI_add]) rfl rfl (ih18 (j18 + 1) (FP.dmul x18_2 4611686018427387904) (x18_4 - 1) (by omega) (BS_mul hI18 (by assumption)).2)
    have e9_0 : F_4bitsOfShare x = (W_4bitsOfShare_18  1022 0 x 1023) := by rw [F_4bitsOfShare, if_pos c3_1]
    exact AR.end' (by first | rfl | (rw [e9_0])) rfl (AR.cast rfl rfl rfl (hW 1022 0 x 1023 (by omega) (BS_0 hsh (by assumption))))
  · refine AR.run g_X4_bitsOfShare_6_1 7 [some (.double (x)), none, none, none, none, none, none, none] [.long (0)] _ [] rfl trivial ?_
    have e10_0 : F_4bitsOfShare x = 0 := by rw [F_4bitsOfShare, if_neg c3_1]
    exact AR.retL dc_X4_bitsOfShare_7 rfl e10_0.symm rfl
theorem bits_W {t : Nat} (ht : t < 4503599627370496) : ∀ (i f j : Nat) (ex : Int64), i ≤ 9 → i < f → W_4bitsOfShare_18 f j (fp_mk (1023 - i) t) ex = ((ex - Int64.ofNat i) <<< ((Int32.toInt64 (nI 52)) &&& 63)) ||| Int64.ofNat t
  | 0, f + 1, j, ex, _, _ => by
    have hc := (fp_lt1 (e := 1023) (t := t) (by omega) (by omega) ht).mpr (Nat.le_refl _)
    unfold W_4bitsOfShare_18
    rw [if_pos hc, (fp_frac ht).2, fp_d2l ht]
    simp
  | i + 1, f + 1, j, ex, h1, h2 => by
    have hc : ¬ 0 ≤ Op.cmpValue (FP.dcmp (fp_mk (1023 - (i + 1)) t) FP.dconst1) .g := fun q => by
      have := (fp_lt1 (e := 1023 - (i + 1)) (t := t) (by omega) (by omega) ht).mp q
      omega
    unfold W_4bitsOfShare_18
    rw [if_neg hc, fp_dmul2 (by omega) (by omega) ht, show 1023 - (i + 1) + 1 = 1023 - i by omega, bits_W ht i f (j + 1) _ (by omega) (by omega)]
    have e1 : Int64.ofNat (i + 1) = Int64.ofNat i + 1 := by rw [Int64.ofNat_add]; rfl
    rw [e1]
    have e2 : ex - 1 - Int64.ofNat i = ex - (Int64.ofNat i + 1) := by grind
    rw [e2]
theorem bits_or {a t : Nat} (ha : a ≤ 1023) (ht : t < 4503599627370496) : Int64.ofNat (a * 4503599627370496) ||| Int64.ofNat t = (fp_mk a t).toInt64 := by
  refine Int64.toBitVec_inj.mp (BitVec.eq_of_toNat_eq ?_)
  have e1 : (Int64.ofNat (a * 4503599627370496)).toBitVec.toNat = a * 4503599627370496 := by
    show (BitVec.ofNat 64 _).toNat = _
    rw [BitVec.toNat_ofNat]
    exact Nat.mod_eq_of_lt (by omega)
  have e2 : (Int64.ofNat t).toBitVec.toNat = t := by
    show (BitVec.ofNat 64 _).toNat = _
    rw [BitVec.toNat_ofNat]
    exact Nat.mod_eq_of_lt (by omega)
  have e3 : (fp_mk a t).toInt64.toBitVec.toNat = a * 4503599627370496 + t := fp_mkN (by omega) ht
  rw [Int64.toBitVec_or, BitVec.toNat_or, e1, e2, e3]
  have h := Nat.shiftLeft_add_eq_or_of_lt (b := t) (i := 52) ht a
  rw [Nat.shiftLeft_eq] at h
  exact h.symm
theorem bits_sh : ∀ i : Nat, i ≤ 9 → ((1023 : Int64) - Int64.ofNat i) <<< ((Int32.toInt64 (nI 52)) &&& 63) = Int64.ofNat ((1023 - i) * 4503599627370496) := by decide +kernel
theorem bits_eq {x : UInt64} (h : SHd x) : F_4bitsOfShare x = x.toInt64 := by
  rcases h with rfl | ⟨e, t, h1, h2, h3, rfl⟩
  · decide +kernel
  · have hp := fp_gt0 (e := e) (t := t) (by omega) (by omega) h3
    unfold F_4bitsOfShare
    rw [if_pos hp]
    obtain ⟨i, hi, rfl⟩ : ∃ i, i ≤ 9 ∧ e = 1023 - i := ⟨1023 - e, by omega, by omega⟩
    rw [bits_W h3 i 1022 0 1023 hi (by omega)]
    rw [bits_sh i hi, bits_or (by omega) h3]
def B_4mixVolumes_21 (T : Nat → Nat → Int32) (j5 : Nat) (j21 : Nat) (x21_3 : Int64) : (Int64) := (F_4mix x21_3 ((F_0volumeFact j5 j21 T).toInt64))
def L_4mixVolumes_21 (T : Nat → Nat → Int32) (j5 : Nat) (x5_3 : Int64) : Nat → (Int64)
  | 0 => x5_3
  | j + 1 => B_4mixVolumes_21 T j5 j (L_4mixVolumes_21 T j5 x5_3  j)
def B_4mixVolumes_72 (T : Nat → Nat → Int32) (j5 : Nat) (j54 : Nat) (j72 : Nat) (x72_3 : Int64) : (Int64) := (F_4mix x72_3 ((F_0leafFact j5 j54 j72 T).toInt64))
def L_4mixVolumes_72 (T : Nat → Nat → Int32) (j5 : Nat) (j54 : Nat) (x54_3 : Int64) : Nat → (Int64)
  | 0 => x54_3
  | j + 1 => B_4mixVolumes_72 T j5 j54 j (L_4mixVolumes_72 T j5 j54 x54_3  j)
def B_4mixVolumes_54 (T : Nat → Nat → Int32) (j5 : Nat) (j54 : Nat) (x54_3 : Int64) : (Int64) := (L_4mixVolumes_72 T j5 j54 x54_3 4)
def L_4mixVolumes_54 (T : Nat → Nat → Int32) (j5 : Nat) (x5_3 : Int64) : Nat → (Int64)
  | 0 => L_4mixVolumes_21 T j5 x5_3 12
  | j + 1 => B_4mixVolumes_54 T j5 j (L_4mixVolumes_54 T j5 x5_3  j)
def B_4mixVolumes_5 (nr : Nat) (ne : Nat) (T : Nat → Nat → Int32) (j5 : Nat) (x5_3 : Int64) : (Int64) := (F_4mix (F_4mix (L_4mixVolumes_54 T j5 x5_3 (lt T j5)) ((W_0placeAt_8 (nI (j5)) ((T 5) 3) T ne).toInt64)) (((L_0quickestCarrier_7 j5 T nr).1).toInt64))
def L_4mixVolumes_5 (g : Int64) (nr : Nat) (ne : Nat) (T : Nat → Nat → Int32) : Nat → (Int64)
  | 0 => g
  | j + 1 => B_4mixVolumes_5 nr ne T j (L_4mixVolumes_5 g nr ne T  j)
theorem g_X4_mixVolumes_0_4 : ab_oks M_X4_mixVolumes [(0, .lload_n 1, 1, 1, 0, 0, .null), (1, .lstore_n 3, 1, 3, 0, 0, .null), (2, .iconst 0, 1, 0, 0, 0, .int (nI (0))), (3, .istore 5, 2, 5, 0, 0, .null)] = true := by decide +kernel
theorem g_X4_mixVolumes_5_4 : ab_oks M_X4_mixVolumes [(5, .iload 5, 2, 5, 0, 0, .null), (7, .aload_n 0, 1, 0, 0, 0, .null), (8, .getfield 10, 3, 4, 0, 235, .null), (11, .iconst 0, 1, 0, 0, 0, .int (nI (0)))] = true := by decide +kernel
theorem dc_X4_mixVolumes_12 : decode (AM.bytes M_X4_mixVolumes) 12 = .ok (.invokevirtual 34, 3) := by decide +kernel
theorem dc_X4_mixVolumes_15 : decode (AM.bytes M_X4_mixVolumes) 15 = .ok (.if_icmp .ge 138, 3) := by decide +kernel
theorem g_X4_mixVolumes_18_2 : ab_oks M_X4_mixVolumes [(18, .iconst 0, 1, 0, 0, 0, .int (nI (0))), (19, .istore 6, 2, 6, 0, 0, .null)] = true := by decide +kernel
theorem g_X4_mixVolumes_21_2 : ab_oks M_X4_mixVolumes [(21, .iload 6, 2, 6, 0, 0, .null), (23, .bipush 11, 2, 0, 0, 0, .int (nI (11)))] = true := by decide +kernel
theorem dc_X4_mixVolumes_25 : decode (AM.bytes M_X4_mixVolumes) 25 = .ok (.if_icmp .gt 26, 3) := by decide +kernel
theorem g_X4_mixVolumes_28_5 : ab_oks M_X4_mixVolumes [(28, .lload_n 3, 1, 3, 0, 0, .null), (29, .aload_n 0, 1, 0, 0, 0, .null), (30, .getfield 10, 3, 4, 0, 235, .null), (33, .iload 5, 2, 5, 0, 0, .null), (35, .iload 6, 2, 6, 0, 0, .null)] = true := by decide +kernel
theorem dc_X4_mixVolumes_37 : decode (AM.bytes M_X4_mixVolumes) 37 = .ok (.invokevirtual 110, 3) := by decide +kernel
theorem g_X4_mixVolumes_40_1 : ab_oks M_X4_mixVolumes [(40, .i2l, 1, 0, 0, 0, .null)] = true := by decide +kernel
theorem lk_4_210 : ab_lkS "LeafCradles" 210 M_X4_mix 2 [406, 407, 91, 408] = true := by decide +kernel
theorem dc_X4_mixVolumes_41 : decode (AM.bytes M_X4_mixVolumes) 41 = .ok (.invokestatic 210, 3) := by decide +kernel
theorem g_X4_mixVolumes_44_3 : ab_oks M_X4_mixVolumes [(44, .lstore_n 3, 1, 3, 0, 0, .null), (45, .iinc 6 1, 3, 6, 0, 0, .int (nI (1))), (48, .goto (-27), 3, 21, 0, 0, .null)] = true := by decide +kernel
theorem g_X4_mixVolumes_51_2 : ab_oks M_X4_mixVolumes [(51, .iconst 0, 1, 0, 0, 0, .int (nI (0))), (52, .istore 6, 2, 6, 0, 0, .null)] = true := by decide +kernel
theorem g_X4_mixVolumes_54_5 : ab_oks M_X4_mixVolumes [(54, .iload 6, 2, 6, 0, 0, .null), (56, .aload_n 0, 1, 0, 0, 0, .null), (57, .getfield 10, 3, 4, 0, 235, .null), (60, .iload 5, 2, 5, 0, 0, .null), (62, .iconst 2, 1, 0, 0, 0, .int (nI (2)))] = true := by decide +kernel
theorem dc_X4_mixVolumes_63 : decode (AM.bytes M_X4_mixVolumes) 63 = .ok (.invokevirtual 110, 3) := by decide +kernel
theorem dc_X4_mixVolumes_66 : decode (AM.bytes M_X4_mixVolumes) 66 = .ok (.if_icmp .ge 43, 3) := by decide +kernel
theorem g_X4_mixVolumes_69_2 : ab_oks M_X4_mixVolumes [(69, .iconst 0, 1, 0, 0, 0, .int (nI (0))), (70, .istore 7, 2, 7, 0, 0, .null)] = true := by decide +kernel
theorem g_X4_mixVolumes_72_2 : ab_oks M_X4_mixVolumes [(72, .iload 7, 2, 7, 0, 0, .null), (74, .iconst 3, 1, 0, 0, 0, .int (nI (3)))] = true := by decide +kernel
theorem dc_X4_mixVolumes_75 : decode (AM.bytes M_X4_mixVolumes) 75 = .ok (.if_icmp .gt 28, 3) := by decide +kernel
theorem g_X4_mixVolumes_78_6 : ab_oks M_X4_mixVolumes [(78, .lload_n 3, 1, 3, 0, 0, .null), (79, .aload_n 0, 1, 0, 0, 0, .null), (80, .getfield 10, 3, 4, 0, 235, .null), (83, .iload 5, 2, 5, 0, 0, .null), (85, .iload 6, 2, 6, 0, 0, .null), (87, .iload 7, 2, 7, 0, 0, .null)] = true := by decide +kernel
theorem dc_X4_mixVolumes_89 : decode (AM.bytes M_X4_mixVolumes) 89 = .ok (.invokevirtual 113, 3) := by decide +kernel
theorem g_X4_mixVolumes_92_1 : ab_oks M_X4_mixVolumes [(92, .i2l, 1, 0, 0, 0, .null)] = true := by decide +kernel
theorem dc_X4_mixVolumes_93 : decode (AM.bytes M_X4_mixVolumes) 93 = .ok (.invokestatic 210, 3) := by decide +kernel
theorem g_X4_mixVolumes_96_3 : ab_oks M_X4_mixVolumes [(96, .lstore_n 3, 1, 3, 0, 0, .null), (97, .iinc 7 1, 3, 7, 0, 0, .int (nI (1))), (100, .goto (-28), 3, 72, 0, 0, .null)] = true := by decide +kernel
theorem g_X4_mixVolumes_103_2 : ab_oks M_X4_mixVolumes [(103, .iinc 6 1, 3, 6, 0, 0, .int (nI (1))), (106, .goto (-52), 3, 54, 0, 0, .null)] = true := by decide +kernel
theorem g_X4_mixVolumes_109_7 : ab_oks M_X4_mixVolumes [(109, .lload_n 3, 1, 3, 0, 0, .null), (110, .aload_n 0, 1, 0, 0, 0, .null), (111, .getfield 10, 3, 4, 0, 235, .null), (114, .iload 5, 2, 5, 0, 0, .null), (116, .aload_n 0, 1, 0, 0, 0, .null), (117, .getfield 10, 3, 4, 0, 235, .null), (120, .iconst 3, 1, 0, 0, 0, .int (nI (3)))] = true := by decide +kernel
theorem dc_X4_mixVolumes_121 : decode (AM.bytes M_X4_mixVolumes) 121 = .ok (.invokevirtual 34, 3) := by decide +kernel
theorem dc_X4_mixVolumes_124 : decode (AM.bytes M_X4_mixVolumes) 124 = .ok (.invokevirtual 179, 3) := by decide +kernel
theorem g_X4_mixVolumes_127_1 : ab_oks M_X4_mixVolumes [(127, .i2l, 1, 0, 0, 0, .null)] = true := by decide +kernel
theorem dc_X4_mixVolumes_128 : decode (AM.bytes M_X4_mixVolumes) 128 = .ok (.invokestatic 210, 3) := by decide +kernel
theorem g_X4_mixVolumes_131_5 : ab_oks M_X4_mixVolumes [(131, .lstore_n 3, 1, 3, 0, 0, .null), (132, .lload_n 3, 1, 3, 0, 0, .null), (133, .aload_n 0, 1, 0, 0, 0, .null), (134, .getfield 10, 3, 4, 0, 235, .null), (137, .iload 5, 2, 5, 0, 0, .null)] = true := by decide +kernel
theorem dc_X4_mixVolumes_139 : decode (AM.bytes M_X4_mixVolumes) 139 = .ok (.invokevirtual 194, 3) := by decide +kernel
theorem g_X4_mixVolumes_142_1 : ab_oks M_X4_mixVolumes [(142, .i2l, 1, 0, 0, 0, .null)] = true := by decide +kernel
theorem dc_X4_mixVolumes_143 : decode (AM.bytes M_X4_mixVolumes) 143 = .ok (.invokestatic 210, 3) := by decide +kernel
theorem g_X4_mixVolumes_146_3 : ab_oks M_X4_mixVolumes [(146, .lstore_n 3, 1, 3, 0, 0, .null), (147, .iinc 5 1, 3, 5, 0, 0, .int (nI (1))), (150, .goto (-145), 3, 5, 0, 0, .null)] = true := by decide +kernel
theorem g_X4_mixVolumes_153_1 : ab_oks M_X4_mixVolumes [(153, .lload_n 3, 1, 3, 0, 0, .null)] = true := by decide +kernel
theorem dc_X4_mixVolumes_154 : decode (AM.bytes M_X4_mixVolumes) 154 = .ok (.lreturn, 1) := by decide +kernel
set_option maxRecDepth 100000 in
set_option maxHeartbeats 4000000 in
theorem s_4mixVolumes {E : AE} (d : Nat) (g : Int64) {nv : Nat} {nc : Nat} {nr : Nat} {ne : Nat}  {o0 m0 u0 l0 : List AC} {T K : Nat → Nat → Int32} {os sc : Int32} {tc tp : Nat → Int32} {tl_ tn trd tv tdg tf tla : Int32} {pg ph pc : Nat → Int32} {pm : Int32} (hT : TI T nv nc nr ne) : CT E M_X4_mixVolumes (d + 4) [.ref 4096, .long (g)] (hp o0 (ar T K os sc) (te_ tc tp tl_ tn trd tv tdg tf tla) (pl pg ph pc pm) m0 u0 l0) (.inl (some (.long (L_4mixVolumes_5 g nr ne T nv)))) (hp o0 (ar T K os sc) (te_ tc tp tl_ tn trd tv tdg tf tla) (pl pg ph pc pm) m0 u0 l0) 0 0 := by
  obtain ⟨⟨hnv, h12⟩, ⟨hnc, h4⟩, ⟨hnr, h3⟩, ⟨hne, h60⟩, hLT, hHT⟩ := id hT
  refine CT.of (L := [some (.ref 4096), some (.long (g)), none, none, none, none, none, none]) rfl rfl ?_
  refine AR.run g_X4_mixVolumes_0_4 5 [some (.ref 4096), some (.long (g)), none, some (.long (g)), none, some (.int (nI (0))), none, none] [] _ [] rfl trivial ?_
  refine AR.cast (L' := [some (.ref 4096), some (.long (g)), none, some (.long (L_4mixVolumes_5 g nr ne T 0)), none, some (.int (nI (0))), none, none]) (by first | rfl | (rw [L_4mixVolumes_5])) rfl rfl (AR.loopN nv (fun j5 => [some (.ref 4096), some (.long (g)), none, some (.long (L_4mixVolumes_5 g nr ne T j5)), none, some (.int (nI (j5))), none, none]) (fun j5 => (hp o0 (ar T K os sc) (te_ tc tp tl_ tn trd tv tdg tf tla) (pl pg ph pc pm) m0 u0 l0)) (fun j5 => True) (fun j5 hj5 hI5 ih5 => ?_) (fun hI5 => ?_) 0 (by omega) (by first | trivial | omega))
  · have ht40 := (hLT j5 (by omega)).2
    refine AR.run g_X4_mixVolumes_5_4 12 [some (.ref 4096), some (.long (g)), none, some (.long (L_4mixVolumes_5 g nr ne T j5)), none, some (.int (nI (j5))), none, none] [.int (nI (0)), .ref 4097, .int (nI (j5))] _ [] rfl trivial ?_
    refine AR.callV1 (4097) [.int (nI (0))] [.int (nI (j5))] lk_4_34 dc_X4_mixVolumes_12 rfl rfl (s_0number _ 0 (by omega)) (by first | rfl | (simp only [nI_add, pk_mul]; first | done | rfl)) rfl ?_
    refine AR.top hT.1.1 ?_
    refine AR.ge2N (tgt := 153) (a := j5) (b := nv) dc_X4_mixVolumes_15 (by decide) (by first | rfl | (simp only [nI_add, pk_mul]; first | done | rfl)) (by first | rfl | (simp only [nI_add, pk_mul]; first | done | rfl)) (by omega) (by omega) (fun c15_1 => absurd c15_1 (by omega)) (fun c15_1 => ?_)
    refine AR.run g_X4_mixVolumes_18_2 21 [some (.ref 4096), some (.long (g)), none, some (.long (L_4mixVolumes_5 g nr ne T j5)), none, some (.int (nI (j5))), some (.int (nI (0))), none] [] _ [] rfl trivial ?_
    refine AR.cast (L' := [some (.ref 4096), some (.long (g)), none, some (.long (L_4mixVolumes_21 T j5 (L_4mixVolumes_5 g nr ne T j5) 0)), none, some (.int (nI (j5))), some (.int (nI (0))), none]) (by first | rfl | (rw [L_4mixVolumes_21])) rfl rfl (AR.loopN 12 (fun j21 => [some (.ref 4096), some (.long (g)), none, some (.long (L_4mixVolumes_21 T j5 (L_4mixVolumes_5 g nr ne T j5) j21)), none, some (.int (nI (j5))), some (.int (nI (j21))), none]) (fun j21 => (hp o0 (ar T K os sc) (te_ tc tp tl_ tn trd tv tdg tf tla) (pl pg ph pc pm) m0 u0 l0)) (fun j21 => True) (fun j21 hj21 hI21 ih21 => ?_) (fun hI21 => ?_) 0 (by omega) (by first | trivial | omega))
    · refine AR.run g_X4_mixVolumes_21_2 25 [some (.ref 4096), some (.long (g)), none, some (.long (L_4mixVolumes_21 T j5 (L_4mixVolumes_5 g nr ne T j5) j21)), none, some (.int (nI (j5))), some (.int (nI (j21))), none] [.int (nI (11)), .int (nI (j21))] _ [] rfl trivial ?_
      refine AR.gt2N (tgt := 51) (a := j21) (b := 11) dc_X4_mixVolumes_25 (by decide) (by first | rfl | (simp only [nI_add, pk_mul]; first | done | rfl)) (by first | rfl | (simp only [nI_add, pk_mul]; first | done | rfl)) (by omega) (by omega) (fun c25_2 => absurd c25_2 (by omega)) (fun c25_2 => ?_)
      refine AR.run g_X4_mixVolumes_28_5 37 [some (.ref 4096), some (.long (g)), none, some (.long (L_4mixVolumes_21 T j5 (L_4mixVolumes_5 g nr ne T j5) j21)), none, some (.int (nI (j5))), some (.int (nI (j21))), none] [.int (nI (j21)), .int (nI (j5)), .ref 4097, .long (L_4mixVolumes_21 T j5 (L_4mixVolumes_5 g nr ne T j5) j21)] _ [] rfl trivial ?_
      refine AR.callV1 (4097) [.int (nI (j5)), .int (nI (j21))] [.long (L_4mixVolumes_21 T j5 (L_4mixVolumes_5 g nr ne T j5) j21)] lk_4_110 dc_X4_mixVolumes_37 rfl rfl (s_0volumeFact _ j5 j21 (by omega) (by first | assumption | exact (hLT j5 (by omega)).1) (by first | assumption | exact (hLT j5 (by omega)).2) (by omega)) (by first | rfl | (simp only [nI_add, pk_mul]; first | done | rfl)) rfl ?_
      refine AR.run g_X4_mixVolumes_40_1 41 [some (.ref 4096), some (.long (g)), none, some (.long (L_4mixVolumes_21 T j5 (L_4mixVolumes_5 g nr ne T j5) j21)), none, some (.int (nI (j5))), some (.int (nI (j21))), none] [.long ((F_0volumeFact j5 j21 T).toInt64), .long (L_4mixVolumes_21 T j5 (L_4mixVolumes_5 g nr ne T j5) j21)] _ [] rfl trivial ?_
      refine AR.callS1 [.long (L_4mixVolumes_21 T j5 (L_4mixVolumes_5 g nr ne T j5) j21), .long ((F_0volumeFact j5 j21 T).toInt64)] [] lk_4_210 dc_X4_mixVolumes_41 (s_4mix _ (L_4mixVolumes_21 T j5 (L_4mixVolumes_5 g nr ne T j5) j21) ((F_0volumeFact j5 j21 T).toInt64) ) (by first | rfl | (simp only [nI_add, pk_mul]; first | done | rfl)) rfl ?_
      refine AR.run g_X4_mixVolumes_44_3 21 [some (.ref 4096), some (.long (g)), none, some (.long (F_4mix (L_4mixVolumes_21 T j5 (L_4mixVolumes_5 g nr ne T j5) j21) ((F_0volumeFact j5 j21 T).toInt64))), none, some (.int (nI (j5))), some (.int ((nI (j21)) + (nI (1)))), none] [] _ [] rfl trivial ?_
      have e3 : L_4mixVolumes_21 T j5 (L_4mixVolumes_5 g nr ne T j5) (j21 + 1) = (F_4mix (L_4mixVolumes_21 T j5 (L_4mixVolumes_5 g nr ne T j5) j21) ((F_0volumeFact j5 j21 T).toInt64)) := by rw [L_4mixVolumes_21, B_4mixVolumes_21]
      exact AR.cast (L' := [some (.ref 4096), some (.long (g)), none, some (.long (L_4mixVolumes_21 T j5 (L_4mixVolumes_5 g nr ne T j5) (j21 + 1))), none, some (.int (nI (j5))), some (.int (nI (j21 + 1))), none]) (by rw [e3, nI_add]) rfl rfl (ih21 (by first | trivial | omega))
    · refine AR.run g_X4_mixVolumes_21_2 25 [some (.ref 4096), some (.long (g)), none, some (.long (L_4mixVolumes_21 T j5 (L_4mixVolumes_5 g nr ne T j5) 12)), none, some (.int (nI (j5))), some (.int (nI (12))), none] [.int (nI (11)), .int (nI (12))] _ [] rfl trivial ?_
      refine AR.gt2N (tgt := 51) (a := 12) (b := 11) dc_X4_mixVolumes_25 (by decide) (by first | rfl | (simp only [nI_add, pk_mul]; first | done | rfl)) (by first | rfl | (simp only [nI_add, pk_mul]; first | done | rfl)) (by omega) (by omega) (fun c25_4 => ?_) (fun c25_4 => absurd c25_4 (by omega))
      refine AR.run g_X4_mixVolumes_51_2 54 [some (.ref 4096), some (.long (g)), none, some (.long (L_4mixVolumes_21 T j5 (L_4mixVolumes_5 g nr ne T j5) 12)), none, some (.int (nI (j5))), some (.int (nI (0))), none] [] _ [] rfl trivial ?_
      refine AR.cast (L' := [some (.ref 4096), some (.long (g)), none, some (.long (L_4mixVolumes_54 T j5 (L_4mixVolumes_5 g nr ne T j5) 0)), none, some (.int (nI (j5))), some (.int (nI (0))), none]) (by first | rfl | (rw [L_4mixVolumes_54])) rfl rfl (AR.loopN (lt T j5) (fun j54 => [some (.ref 4096), some (.long (g)), none, some (.long (L_4mixVolumes_54 T j5 (L_4mixVolumes_5 g nr ne T j5) j54)), none, some (.int (nI (j5))), some (.int (nI (j54))), none]) (fun j54 => (hp o0 (ar T K os sc) (te_ tc tp tl_ tn trd tv tdg tf tla) (pl pg ph pc pm) m0 u0 l0)) (fun j54 => True) (fun j54 hj54 hI54 ih54 => ?_) (fun hI54 => ?_) 0 (by omega) (by first | trivial | omega))
      · refine AR.run g_X4_mixVolumes_54_5 63 [some (.ref 4096), some (.long (g)), none, some (.long (L_4mixVolumes_54 T j5 (L_4mixVolumes_5 g nr ne T j5) j54)), none, some (.int (nI (j5))), some (.int (nI (j54))), none] [.int (nI (2)), .int (nI (j5)), .ref 4097, .int (nI (j54))] _ [] rfl trivial ?_
        refine AR.callV1 (4097) [.int (nI (j5)), .int (nI (2))] [.int (nI (j54))] lk_4_110 dc_X4_mixVolumes_63 rfl rfl (s_0volumeFact _ j5 2 (by omega) (by first | assumption | exact (hLT j5 (by omega)).1) (by first | assumption | exact (hLT j5 (by omega)).2) (by omega)) (by first | rfl | (simp only [nI_add, pk_mul]; first | done | rfl)) rfl ?_
        refine AR.top (vf2 (hLT j5 (by omega))) ?_
        refine AR.ge2N (tgt := 109) (a := j54) (b := (lt T j5)) dc_X4_mixVolumes_66 (by decide) (by first | rfl | (simp only [nI_add, pk_mul]; first | done | rfl)) (by first | rfl | (simp only [nI_add, pk_mul]; first | done | rfl)) (by omega) (by omega) (fun c66_5 => absurd c66_5 (by omega)) (fun c66_5 => ?_)
        refine AR.run g_X4_mixVolumes_69_2 72 [some (.ref 4096), some (.long (g)), none, some (.long (L_4mixVolumes_54 T j5 (L_4mixVolumes_5 g nr ne T j5) j54)), none, some (.int (nI (j5))), some (.int (nI (j54))), some (.int (nI (0)))] [] _ [] rfl trivial ?_
        refine AR.cast (L' := [some (.ref 4096), some (.long (g)), none, some (.long (L_4mixVolumes_72 T j5 j54 (L_4mixVolumes_54 T j5 (L_4mixVolumes_5 g nr ne T j5) j54) 0)), none, some (.int (nI (j5))), some (.int (nI (j54))), some (.int (nI (0)))]) (by first | rfl | (rw [L_4mixVolumes_72])) rfl rfl (AR.loopN 4 (fun j72 => [some (.ref 4096), some (.long (g)), none, some (.long (L_4mixVolumes_72 T j5 j54 (L_4mixVolumes_54 T j5 (L_4mixVolumes_5 g nr ne T j5) j54) j72)), none, some (.int (nI (j5))), some (.int (nI (j54))), some (.int (nI (j72)))]) (fun j72 => (hp o0 (ar T K os sc) (te_ tc tp tl_ tn trd tv tdg tf tla) (pl pg ph pc pm) m0 u0 l0)) (fun j72 => True) (fun j72 hj72 hI72 ih72 => ?_) (fun hI72 => ?_) 0 (by omega) (by first | trivial | omega))
        · refine AR.run g_X4_mixVolumes_72_2 75 [some (.ref 4096), some (.long (g)), none, some (.long (L_4mixVolumes_72 T j5 j54 (L_4mixVolumes_54 T j5 (L_4mixVolumes_5 g nr ne T j5) j54) j72)), none, some (.int (nI (j5))), some (.int (nI (j54))), some (.int (nI (j72)))] [.int (nI (3)), .int (nI (j72))] _ [] rfl trivial ?_
          refine AR.gt2N (tgt := 103) (a := j72) (b := 3) dc_X4_mixVolumes_75 (by decide) (by first | rfl | (simp only [nI_add, pk_mul]; first | done | rfl)) (by first | rfl | (simp only [nI_add, pk_mul]; first | done | rfl)) (by omega) (by omega) (fun c75_6 => absurd c75_6 (by omega)) (fun c75_6 => ?_)
          refine AR.run g_X4_mixVolumes_78_6 89 [some (.ref 4096), some (.long (g)), none, some (.long (L_4mixVolumes_72 T j5 j54 (L_4mixVolumes_54 T j5 (L_4mixVolumes_5 g nr ne T j5) j54) j72)), none, some (.int (nI (j5))), some (.int (nI (j54))), some (.int (nI (j72)))] [.int (nI (j72)), .int (nI (j54)), .int (nI (j5)), .ref 4097, .long (L_4mixVolumes_72 T j5 j54 (L_4mixVolumes_54 T j5 (L_4mixVolumes_5 g nr ne T j5) j54) j72)] _ [] rfl trivial ?_
          refine AR.callV1 (4097) [.int (nI (j5)), .int (nI (j54)), .int (nI (j72))] [.long (L_4mixVolumes_72 T j5 j54 (L_4mixVolumes_54 T j5 (L_4mixVolumes_5 g nr ne T j5) j54) j72)] lk_4_113 dc_X4_mixVolumes_89 rfl rfl (s_0leafFact _ j5 j54 j72 (by omega) (by omega) (by omega)) (by first | rfl | (simp only [nI_add, pk_mul]; first | done | rfl)) rfl ?_
          refine AR.run g_X4_mixVolumes_92_1 93 [some (.ref 4096), some (.long (g)), none, some (.long (L_4mixVolumes_72 T j5 j54 (L_4mixVolumes_54 T j5 (L_4mixVolumes_5 g nr ne T j5) j54) j72)), none, some (.int (nI (j5))), some (.int (nI (j54))), some (.int (nI (j72)))] [.long ((F_0leafFact j5 j54 j72 T).toInt64), .long (L_4mixVolumes_72 T j5 j54 (L_4mixVolumes_54 T j5 (L_4mixVolumes_5 g nr ne T j5) j54) j72)] _ [] rfl trivial ?_
          refine AR.callS1 [.long (L_4mixVolumes_72 T j5 j54 (L_4mixVolumes_54 T j5 (L_4mixVolumes_5 g nr ne T j5) j54) j72), .long ((F_0leafFact j5 j54 j72 T).toInt64)] [] lk_4_210 dc_X4_mixVolumes_93 (s_4mix _ (L_4mixVolumes_72 T j5 j54 (L_4mixVolumes_54 T j5 (L_4mixVolumes_5 g nr ne T j5) j54) j72) ((F_0leafFact j5 j54 j72 T).toInt64) ) (by first | rfl | (simp only [nI_add, pk_mul]; first | done | rfl)) rfl ?_
          refine AR.run g_X4_mixVolumes_96_3 72 [some (.ref 4096), some (.long (g)), none, some (.long (F_4mix (L_4mixVolumes_72 T j5 j54 (L_4mixVolumes_54 T j5 (L_4mixVolumes_5 g nr ne T j5) j54) j72) ((F_0leafFact j5 j54 j72 T).toInt64))), none, some (.int (nI (j5))), some (.int (nI (j54))), some (.int ((nI (j72)) + (nI (1))))] [] _ [] rfl trivial ?_
          have e7 : L_4mixVolumes_72 T j5 j54 (L_4mixVolumes_54 T j5 (L_4mixVolumes_5 g nr ne T j5) j54) (j72 + 1) = (F_4mix (L_4mixVolumes_72 T j5 j54 (L_4mixVolumes_54 T j5 (L_4mixVolumes_5 g nr ne T j5) j54) j72) ((F_0leafFact j5 j54 j72 T).toInt64)) := by rw [L_4mixVolumes_72, B_4mixVolumes_72]
          exact AR.cast (L' := [some (.ref 4096), some (.long (g)), none, some (.long (L_4mixVolumes_72 T j5 j54 (L_4mixVolumes_54 T j5 (L_4mixVolumes_5 g nr ne T j5) j54) (j72 + 1))), none, some (.int (nI (j5))), some (.int (nI (j54))), some (.int (nI (j72 + 1)))]) (by rw [e7, nI_add]) rfl rfl (ih72 (by first | trivial | omega))
        · refine AR.run g_X4_mixVolumes_72_2 75 [some (.ref 4096), some (.long (g)), none, some (.long (L_4mixVolumes_72 T j5 j54 (L_4mixVolumes_54 T j5 (L_4mixVolumes_5 g nr ne T j5) j54) 4)), none, some (.int (nI (j5))), some (.int (nI (j54))), some (.int (nI (4)))] [.int (nI (3)), .int (nI (4))] _ [] rfl trivial ?_
          refine AR.gt2N (tgt := 103) (a := 4) (b := 3) dc_X4_mixVolumes_75 (by decide) (by first | rfl | (simp only [nI_add, pk_mul]; first | done | rfl)) (by first | rfl | (simp only [nI_add, pk_mul]; first | done | rfl)) (by omega) (by omega) (fun c75_8 => ?_) (fun c75_8 => absurd c75_8 (by omega))
          refine AR.run g_X4_mixVolumes_103_2 54 [some (.ref 4096), some (.long (g)), none, some (.long (L_4mixVolumes_72 T j5 j54 (L_4mixVolumes_54 T j5 (L_4mixVolumes_5 g nr ne T j5) j54) 4)), none, some (.int (nI (j5))), some (.int ((nI (j54)) + (nI (1)))), some (.int (nI (4)))] [] _ [] rfl trivial ?_
          refine AR.drop (L' := [some (.ref 4096), some (.long (g)), none, some (.long (L_4mixVolumes_72 T j5 j54 (L_4mixVolumes_54 T j5 (L_4mixVolumes_5 g nr ne T j5) j54) 4)), none, some (.int (nI (j5))), some (.int ((nI (j54)) + (nI (1)))), none]) ⟨rfl, rfl, rfl, rfl, rfl, trivial⟩ ?_
          have e9 : L_4mixVolumes_54 T j5 (L_4mixVolumes_5 g nr ne T j5) (j54 + 1) = (L_4mixVolumes_72 T j5 j54 (L_4mixVolumes_54 T j5 (L_4mixVolumes_5 g nr ne T j5) j54) 4) := by rw [L_4mixVolumes_54, B_4mixVolumes_54]
          exact AR.cast (L' := [some (.ref 4096), some (.long (g)), none, some (.long (L_4mixVolumes_54 T j5 (L_4mixVolumes_5 g nr ne T j5) (j54 + 1))), none, some (.int (nI (j5))), some (.int (nI (j54 + 1))), none]) (by rw [e9, nI_add]) rfl rfl (ih54 (by first | trivial | omega))
      · refine AR.run g_X4_mixVolumes_54_5 63 [some (.ref 4096), some (.long (g)), none, some (.long (L_4mixVolumes_54 T j5 (L_4mixVolumes_5 g nr ne T j5) (lt T j5))), none, some (.int (nI (j5))), some (.int (nI (lt T j5))), none] [.int (nI (2)), .int (nI (j5)), .ref 4097, .int (nI (lt T j5))] _ [] rfl trivial ?_
        refine AR.callV1 (4097) [.int (nI (j5)), .int (nI (2))] [.int (nI (lt T j5))] lk_4_110 dc_X4_mixVolumes_63 rfl rfl (s_0volumeFact _ j5 2 (by omega) (by first | assumption | exact (hLT j5 (by omega)).1) (by first | assumption | exact (hLT j5 (by omega)).2) (by omega)) (by first | rfl | (simp only [nI_add, pk_mul]; first | done | rfl)) rfl ?_
        refine AR.top (vf2 (hLT j5 (by omega))) ?_
        refine AR.ge2N (tgt := 109) (a := lt T j5) (b := (lt T j5)) dc_X4_mixVolumes_66 (by decide) (by first | rfl | (simp only [nI_add, pk_mul]; first | done | rfl)) (by first | rfl | (simp only [nI_add, pk_mul]; first | done | rfl)) (by omega) (by omega) (fun c66_10 => ?_) (fun c66_10 => absurd c66_10 (by omega))
        refine AR.run g_X4_mixVolumes_109_7 121 [some (.ref 4096), some (.long (g)), none, some (.long (L_4mixVolumes_54 T j5 (L_4mixVolumes_5 g nr ne T j5) (lt T j5))), none, some (.int (nI (j5))), some (.int (nI (lt T j5))), none] [.int (nI (3)), .ref 4097, .int (nI (j5)), .ref 4097, .long (L_4mixVolumes_54 T j5 (L_4mixVolumes_5 g nr ne T j5) (lt T j5))] _ [] rfl trivial ?_
        refine AR.callV1 (4097) [.int (nI (3))] [.int (nI (j5)), .ref 4097, .long (L_4mixVolumes_54 T j5 (L_4mixVolumes_5 g nr ne T j5) (lt T j5))] lk_4_34 dc_X4_mixVolumes_121 rfl rfl (s_0number _ 3 (by omega)) (by first | rfl | (simp only [nI_add, pk_mul]; first | done | rfl)) rfl ?_
        refine AR.callV1 (4097) [.int (nI (j5)), .int ((T 5) 3)] [.long (L_4mixVolumes_54 T j5 (L_4mixVolumes_5 g nr ne T j5) (lt T j5))] lk_4_179 dc_X4_mixVolumes_124 rfl rfl (s_0placeAt _ (nI (j5)) ((T 5) 3) (by assumption)) (by first | rfl | (simp only [nI_add, pk_mul]; first | done | rfl)) rfl ?_
        refine AR.run g_X4_mixVolumes_127_1 128 [some (.ref 4096), some (.long (g)), none, some (.long (L_4mixVolumes_54 T j5 (L_4mixVolumes_5 g nr ne T j5) (lt T j5))), none, some (.int (nI (j5))), some (.int (nI (lt T j5))), none] [.long ((W_0placeAt_8 (nI (j5)) ((T 5) 3) T ne).toInt64), .long (L_4mixVolumes_54 T j5 (L_4mixVolumes_5 g nr ne T j5) (lt T j5))] _ [] rfl trivial ?_
        refine AR.callS1 [.long (L_4mixVolumes_54 T j5 (L_4mixVolumes_5 g nr ne T j5) (lt T j5)), .long ((W_0placeAt_8 (nI (j5)) ((T 5) 3) T ne).toInt64)] [] lk_4_210 dc_X4_mixVolumes_128 (s_4mix _ (L_4mixVolumes_54 T j5 (L_4mixVolumes_5 g nr ne T j5) (lt T j5)) ((W_0placeAt_8 (nI (j5)) ((T 5) 3) T ne).toInt64) ) (by first | rfl | (simp only [nI_add, pk_mul]; first | done | rfl)) rfl ?_
        refine AR.run g_X4_mixVolumes_131_5 139 [some (.ref 4096), some (.long (g)), none, some (.long (F_4mix (L_4mixVolumes_54 T j5 (L_4mixVolumes_5 g nr ne T j5) (lt T j5)) ((W_0placeAt_8 (nI (j5)) ((T 5) 3) T ne).toInt64))), none, some (.int (nI (j5))), some (.int (nI (lt T j5))), none] [.int (nI (j5)), .ref 4097, .long (F_4mix (L_4mixVolumes_54 T j5 (L_4mixVolumes_5 g nr ne T j5) (lt T j5)) ((W_0placeAt_8 (nI (j5)) ((T 5) 3) T ne).toInt64))] _ [] rfl trivial ?_
        refine AR.callV1 (4097) [.int (nI (j5))] [.long (F_4mix (L_4mixVolumes_54 T j5 (L_4mixVolumes_5 g nr ne T j5) (lt T j5)) ((W_0placeAt_8 (nI (j5)) ((T 5) 3) T ne).toInt64))] lk_4_194 dc_X4_mixVolumes_139 rfl rfl (s_0quickestCarrier _ j5 (by assumption) (by omega)) (by first | rfl | (simp only [nI_add, pk_mul]; first | done | rfl)) rfl ?_
        refine AR.run g_X4_mixVolumes_142_1 143 [some (.ref 4096), some (.long (g)), none, some (.long (F_4mix (L_4mixVolumes_54 T j5 (L_4mixVolumes_5 g nr ne T j5) (lt T j5)) ((W_0placeAt_8 (nI (j5)) ((T 5) 3) T ne).toInt64))), none, some (.int (nI (j5))), some (.int (nI (lt T j5))), none] [.long (((L_0quickestCarrier_7 j5 T nr).1).toInt64), .long (F_4mix (L_4mixVolumes_54 T j5 (L_4mixVolumes_5 g nr ne T j5) (lt T j5)) ((W_0placeAt_8 (nI (j5)) ((T 5) 3) T ne).toInt64))] _ [] rfl trivial ?_
        refine AR.callS1 [.long (F_4mix (L_4mixVolumes_54 T j5 (L_4mixVolumes_5 g nr ne T j5) (lt T j5)) ((W_0placeAt_8 (nI (j5)) ((T 5) 3) T ne).toInt64)), .long (((L_0quickestCarrier_7 j5 T nr).1).toInt64)] [] lk_4_210 dc_X4_mixVolumes_143 (s_4mix _ (F_4mix (L_4mixVolumes_54 T j5 (L_4mixVolumes_5 g nr ne T j5) (lt T j5)) ((W_0placeAt_8 (nI (j5)) ((T 5) 3) T ne).toInt64)) (((L_0quickestCarrier_7 j5 T nr).1).toInt64) ) (by first | rfl | (simp only [nI_add, pk_mul]; first | done | rfl)) rfl ?_
        refine AR.run g_X4_mixVolumes_146_3 5 [some (.ref 4096), some (.long (g)), none, some (.long (F_4mix (F_4mix (L_4mixVolumes_54 T j5 (L_4mixVolumes_5 g nr ne T j5) (lt T j5)) ((W_0placeAt_8 (nI (j5)) ((T 5) 3) T ne).toInt64)) (((L_0quickestCarrier_7 j5 T nr).1).toInt64))), none, some (.int ((nI (j5)) + (nI (1)))), some (.int (nI (lt T j5))), none] [] _ [] rfl trivial ?_
        refine AR.drop (L' := [some (.ref 4096), some (.long (g)), none, some (.long (F_4mix (F_4mix (L_4mixVolumes_54 T j5 (L_4mixVolumes_5 g nr ne T j5) (lt T j5)) ((W_0placeAt_8 (nI (j5)) ((T 5) 3) T ne).toInt64)) (((L_0quickestCarrier_7 j5 T nr).1).toInt64))), none, some (.int ((nI (j5)) + (nI (1)))), none, none]) ⟨rfl, rfl, rfl, rfl, trivial⟩ ?_
        have e11 : L_4mixVolumes_5 g nr ne T (j5 + 1) = (F_4mix (F_4mix (L_4mixVolumes_54 T j5 (L_4mixVolumes_5 g nr ne T j5) (lt T j5)) ((W_0placeAt_8 (nI (j5)) ((T 5) 3) T ne).toInt64)) (((L_0quickestCarrier_7 j5 T nr).1).toInt64)) := by rw [L_4mixVolumes_5, B_4mixVolumes_5]
        exact AR.cast (L' := [some (.ref 4096), some (.long (g)), none, some (.long (L_4mixVolumes_5 g nr ne T (j5 + 1))), none, some (.int (nI (j5 + 1))), none, none]) (by rw [e11, nI_add]) rfl rfl (ih5 (by first | trivial | omega))
  · refine AR.run g_X4_mixVolumes_5_4 12 [some (.ref 4096), some (.long (g)), none, some (.long (L_4mixVolumes_5 g nr ne T nv)), none, some (.int (nI (nv))), none, none] [.int (nI (0)), .ref 4097, .int (nI (nv))] _ [] rfl trivial ?_
    refine AR.callV1 (4097) [.int (nI (0))] [.int (nI (nv))] lk_4_34 dc_X4_mixVolumes_12 rfl rfl (s_0number _ 0 (by omega)) (by first | rfl | (simp only [nI_add, pk_mul]; first | done | rfl)) rfl ?_
    refine AR.top hT.1.1 ?_
    refine AR.ge2N (tgt := 153) (a := nv) (b := nv) dc_X4_mixVolumes_15 (by decide) (by first | rfl | (simp only [nI_add, pk_mul]; first | done | rfl)) (by first | rfl | (simp only [nI_add, pk_mul]; first | done | rfl)) (by omega) (by omega) (fun c15_12 => ?_) (fun c15_12 => absurd c15_12 (by omega))
    refine AR.run g_X4_mixVolumes_153_1 154 [some (.ref 4096), some (.long (g)), none, some (.long (L_4mixVolumes_5 g nr ne T nv)), none, some (.int (nI (nv))), none, none] [.long (L_4mixVolumes_5 g nr ne T nv)] _ [] rfl trivial ?_
    exact AR.retL dc_X4_mixVolumes_154 rfl rfl rfl
def B_4mixCradles_21 (j5 : Nat) (y5_ar0 : Nat → Nat → Int32) (j21 : Nat) (x21_3 : Int64) : (Int64) := (F_4mix x21_3 ((F_0cradleFact j5 j21 y5_ar0).toInt64))
def L_4mixCradles_21 (j5 : Nat) (x5_3 : Int64) (y5_ar0 : Nat → Nat → Int32) : Nat → (Int64)
  | 0 => x5_3
  | j + 1 => B_4mixCradles_21 j5 y5_ar0 j (L_4mixCradles_21 j5 x5_3 y5_ar0  j)
def B_4mixCradles_5 (j5 : Nat) (x5_3 : Int64) (y5_ar0 : Nat → Nat → Int32) : (Int64) × (Nat → Nat → Int32) := (F_4mix (L_4mixCradles_21 j5 x5_3 y5_ar0 6) ((F_0scansOnCradleIn j5 (nI (30)) y5_ar0).toInt64), F_0scansOnCradleIn_T j5 (nI (30)) y5_ar0)
def L_4mixCradles_5 (g : Int64) (T : Nat → Nat → Int32) : Nat → (Int64) × (Nat → Nat → Int32)
  | 0 => (g, T)
  | j + 1 => B_4mixCradles_5  j ((L_4mixCradles_5 g T  j).1) ((L_4mixCradles_5 g T  j).2)
theorem TI_mC {g : Int64} {T : Nat → Nat → Int32} {nv nc nr ne : Nat} (hT : TI T nv nc nr ne) (h4 : nc ≤ 4) : ∀ j : Nat, j ≤ 4 → TI (L_4mixCradles_5 g T j).2 nv nc nr ne
  | 0, _ => hT
  | j + 1, h => TI_scansOn (TI_mC hT h4 j (by omega)) (by omega)
def F_4mixCradles (g : Int64) (nc : Nat) (T : Nat → Nat → Int32) : Int64 := ((L_4mixCradles_5 g T nc).1)
def F_4mixCradles_T (g : Int64) (nc : Nat) (T : Nat → Nat → Int32) : Nat → Nat → Int32 := ((L_4mixCradles_5 g T nc).2)
theorem g_X4_mixCradles_0_4 : ab_oks M_X4_mixCradles [(0, .lload_n 1, 1, 1, 0, 0, .null), (1, .lstore_n 3, 1, 3, 0, 0, .null), (2, .iconst 0, 1, 0, 0, 0, .int (nI (0))), (3, .istore 5, 2, 5, 0, 0, .null)] = true := by decide +kernel
theorem g_X4_mixCradles_5_4 : ab_oks M_X4_mixCradles [(5, .iload 5, 2, 5, 0, 0, .null), (7, .aload_n 0, 1, 0, 0, 0, .null), (8, .getfield 10, 3, 4, 0, 235, .null), (11, .iconst 1, 1, 0, 0, 0, .int (nI (1)))] = true := by decide +kernel
theorem dc_X4_mixCradles_12 : decode (AM.bytes M_X4_mixCradles) 12 = .ok (.invokevirtual 34, 3) := by decide +kernel
theorem dc_X4_mixCradles_15 : decode (AM.bytes M_X4_mixCradles) 15 = .ok (.if_icmp .ge 58, 3) := by decide +kernel
theorem g_X4_mixCradles_18_2 : ab_oks M_X4_mixCradles [(18, .iconst 0, 1, 0, 0, 0, .int (nI (0))), (19, .istore 6, 2, 6, 0, 0, .null)] = true := by decide +kernel
theorem g_X4_mixCradles_21_2 : ab_oks M_X4_mixCradles [(21, .iload 6, 2, 6, 0, 0, .null), (23, .iconst 5, 1, 0, 0, 0, .int (nI (5)))] = true := by decide +kernel
theorem dc_X4_mixCradles_24 : decode (AM.bytes M_X4_mixCradles) 24 = .ok (.if_icmp .gt 26, 3) := by decide +kernel
theorem g_X4_mixCradles_27_5 : ab_oks M_X4_mixCradles [(27, .lload_n 3, 1, 3, 0, 0, .null), (28, .aload_n 0, 1, 0, 0, 0, .null), (29, .getfield 10, 3, 4, 0, 235, .null), (32, .iload 5, 2, 5, 0, 0, .null), (34, .iload 6, 2, 6, 0, 0, .null)] = true := by decide +kernel
theorem dc_X4_mixCradles_36 : decode (AM.bytes M_X4_mixCradles) 36 = .ok (.invokevirtual 170, 3) := by decide +kernel
theorem g_X4_mixCradles_39_1 : ab_oks M_X4_mixCradles [(39, .i2l, 1, 0, 0, 0, .null)] = true := by decide +kernel
theorem dc_X4_mixCradles_40 : decode (AM.bytes M_X4_mixCradles) 40 = .ok (.invokestatic 210, 3) := by decide +kernel
theorem g_X4_mixCradles_43_3 : ab_oks M_X4_mixCradles [(43, .lstore_n 3, 1, 3, 0, 0, .null), (44, .iinc 6 1, 3, 6, 0, 0, .int (nI (1))), (47, .goto (-26), 3, 21, 0, 0, .null)] = true := by decide +kernel
theorem g_X4_mixCradles_50_5 : ab_oks M_X4_mixCradles [(50, .lload_n 3, 1, 3, 0, 0, .null), (51, .aload_n 0, 1, 0, 0, 0, .null), (52, .getfield 10, 3, 4, 0, 235, .null), (55, .iload 5, 2, 5, 0, 0, .null), (57, .bipush 30, 2, 0, 0, 0, .int (nI (30)))] = true := by decide +kernel
theorem dc_X4_mixCradles_59 : decode (AM.bytes M_X4_mixCradles) 59 = .ok (.invokevirtual 188, 3) := by decide +kernel
theorem g_X4_mixCradles_62_1 : ab_oks M_X4_mixCradles [(62, .i2l, 1, 0, 0, 0, .null)] = true := by decide +kernel
theorem dc_X4_mixCradles_63 : decode (AM.bytes M_X4_mixCradles) 63 = .ok (.invokestatic 210, 3) := by decide +kernel
theorem g_X4_mixCradles_66_3 : ab_oks M_X4_mixCradles [(66, .lstore_n 3, 1, 3, 0, 0, .null), (67, .iinc 5 1, 3, 5, 0, 0, .int (nI (1))), (70, .goto (-65), 3, 5, 0, 0, .null)] = true := by decide +kernel
theorem g_X4_mixCradles_73_1 : ab_oks M_X4_mixCradles [(73, .lload_n 3, 1, 3, 0, 0, .null)] = true := by decide +kernel
theorem dc_X4_mixCradles_74 : decode (AM.bytes M_X4_mixCradles) 74 = .ok (.lreturn, 1) := by decide +kernel
set_option maxRecDepth 100000 in
set_option maxHeartbeats 4000000 in
theorem s_4mixCradles {E : AE} (d : Nat) (g : Int64) {nv : Nat} {nc : Nat} {nr : Nat} {ne : Nat}  {o0 m0 u0 l0 : List AC} {T K : Nat → Nat → Int32} {os sc : Int32} {tc tp : Nat → Int32} {tl_ tn trd tv tdg tf tla : Int32} {pg ph pc : Nat → Int32} {pm : Int32} (hT : TI T nv nc nr ne) : CT E M_X4_mixCradles (d + 5) [.ref 4096, .long (g)] (hp o0 (ar T K os sc) (te_ tc tp tl_ tn trd tv tdg tf tla) (pl pg ph pc pm) m0 u0 l0) (.inl (some (.long (F_4mixCradles g nc T)))) (hp o0 (ar (F_4mixCradles_T g nc T) K os sc) (te_ tc tp tl_ tn trd tv tdg tf tla) (pl pg ph pc pm) m0 u0 l0) 0 0 := by
  obtain ⟨⟨hnv, h12⟩, ⟨hnc, h4⟩, ⟨hnr, h3⟩, ⟨hne, h60⟩, hLT, hHT⟩ := id hT
  refine CT.of (L := [some (.ref 4096), some (.long (g)), none, none, none, none, none]) rfl rfl ?_
  refine AR.run g_X4_mixCradles_0_4 5 [some (.ref 4096), some (.long (g)), none, some (.long (g)), none, some (.int (nI (0))), none] [] _ [] rfl trivial ?_
  refine AR.cast (L' := [some (.ref 4096), some (.long (g)), none, some (.long ((L_4mixCradles_5 g T 0).1)), none, some (.int (nI (0))), none]) (by first | rfl | (rw [L_4mixCradles_5])) rfl (by first | rfl | (rw [L_4mixCradles_5])) (AR.loopN nc (fun j5 => [some (.ref 4096), some (.long (g)), none, some (.long ((L_4mixCradles_5 g T j5).1)), none, some (.int (nI (j5))), none]) (fun j5 => (hp o0 (ar ((L_4mixCradles_5 g T j5).2) K os sc) (te_ tc tp tl_ tn trd tv tdg tf tla) (pl pg ph pc pm) m0 u0 l0)) (fun j5 => True) (fun j5 hj5 hI5 ih5 => ?_) (fun hI5 => ?_) 0 (by omega) (by first | trivial | omega))
  · have hA_0 : TI ((L_4mixCradles_5 g T j5).2) nv nc nr ne := TI_mC hT h4 j5 (by omega)
    refine AR.run g_X4_mixCradles_5_4 12 [some (.ref 4096), some (.long (g)), none, some (.long ((L_4mixCradles_5 g T j5).1)), none, some (.int (nI (j5))), none] [.int (nI (1)), .ref 4097, .int (nI (j5))] _ [] rfl trivial ?_
    refine AR.callV1 (4097) [.int (nI (1))] [.int (nI (j5))] lk_4_34 dc_X4_mixCradles_12 rfl rfl (s_0number _ 1 (by omega)) (by first | rfl | (simp only [nI_add, pk_mul]; first | done | rfl)) rfl ?_
    refine AR.top hA_0.2.1.1 ?_
    refine AR.ge2N (tgt := 73) (a := j5) (b := nc) dc_X4_mixCradles_15 (by decide) (by first | rfl | (simp only [nI_add, pk_mul]; first | done | rfl)) (by first | rfl | (simp only [nI_add, pk_mul]; first | done | rfl)) (by omega) (by omega) (fun c15_1 => absurd c15_1 (by omega)) (fun c15_1 => ?_)
    refine AR.run g_X4_mixCradles_18_2 21 [some (.ref 4096), some (.long (g)), none, some (.long ((L_4mixCradles_5 g T j5).1)), none, some (.int (nI (j5))), some (.int (nI (0)))] [] _ [] rfl trivial ?_
    refine AR.cast (L' := [some (.ref 4096), some (.long (g)), none, some (.long (L_4mixCradles_21 j5 ((L_4mixCradles_5 g T j5).1) ((L_4mixCradles_5 g T j5).2) 0)), none, some (.int (nI (j5))), some (.int (nI (0)))]) (by first | rfl | (rw [L_4mixCradles_21])) rfl rfl (AR.loopN 6 (fun j21 => [some (.ref 4096), some (.long (g)), none, some (.long (L_4mixCradles_21 j5 ((L_4mixCradles_5 g T j5).1) ((L_4mixCradles_5 g T j5).2) j21)), none, some (.int (nI (j5))), some (.int (nI (j21)))]) (fun j21 => (hp o0 (ar ((L_4mixCradles_5 g T j5).2) K os sc) (te_ tc tp tl_ tn trd tv tdg tf tla) (pl pg ph pc pm) m0 u0 l0)) (fun j21 => True) (fun j21 hj21 hI21 ih21 => ?_) (fun hI21 => ?_) 0 (by omega) (by first | trivial | omega))
    · refine AR.run g_X4_mixCradles_21_2 24 [some (.ref 4096), some (.long (g)), none, some (.long (L_4mixCradles_21 j5 ((L_4mixCradles_5 g T j5).1) ((L_4mixCradles_5 g T j5).2) j21)), none, some (.int (nI (j5))), some (.int (nI (j21)))] [.int (nI (5)), .int (nI (j21))] _ [] rfl trivial ?_
      refine AR.gt2N (tgt := 50) (a := j21) (b := 5) dc_X4_mixCradles_24 (by decide) (by first | rfl | (simp only [nI_add, pk_mul]; first | done | rfl)) (by first | rfl | (simp only [nI_add, pk_mul]; first | done | rfl)) (by omega) (by omega) (fun c24_2 => absurd c24_2 (by omega)) (fun c24_2 => ?_)
      refine AR.run g_X4_mixCradles_27_5 36 [some (.ref 4096), some (.long (g)), none, some (.long (L_4mixCradles_21 j5 ((L_4mixCradles_5 g T j5).1) ((L_4mixCradles_5 g T j5).2) j21)), none, some (.int (nI (j5))), some (.int (nI (j21)))] [.int (nI (j21)), .int (nI (j5)), .ref 4097, .long (L_4mixCradles_21 j5 ((L_4mixCradles_5 g T j5).1) ((L_4mixCradles_5 g T j5).2) j21)] _ [] rfl trivial ?_
      refine AR.callV1 (4097) [.int (nI (j5)), .int (nI (j21))] [.long (L_4mixCradles_21 j5 ((L_4mixCradles_5 g T j5).1) ((L_4mixCradles_5 g T j5).2) j21)] lk_4_170 dc_X4_mixCradles_36 rfl rfl (s_0cradleFact _ j5 j21 hA_0 (by omega) (by omega)) (by first | rfl | (simp only [nI_add, pk_mul]; first | done | rfl)) rfl ?_
      refine AR.run g_X4_mixCradles_39_1 40 [some (.ref 4096), some (.long (g)), none, some (.long (L_4mixCradles_21 j5 ((L_4mixCradles_5 g T j5).1) ((L_4mixCradles_5 g T j5).2) j21)), none, some (.int (nI (j5))), some (.int (nI (j21)))] [.long ((F_0cradleFact j5 j21 ((L_4mixCradles_5 g T j5).2)).toInt64), .long (L_4mixCradles_21 j5 ((L_4mixCradles_5 g T j5).1) ((L_4mixCradles_5 g T j5).2) j21)] _ [] rfl trivial ?_
      refine AR.callS1 [.long (L_4mixCradles_21 j5 ((L_4mixCradles_5 g T j5).1) ((L_4mixCradles_5 g T j5).2) j21), .long ((F_0cradleFact j5 j21 ((L_4mixCradles_5 g T j5).2)).toInt64)] [] lk_4_210 dc_X4_mixCradles_40 (s_4mix _ (L_4mixCradles_21 j5 ((L_4mixCradles_5 g T j5).1) ((L_4mixCradles_5 g T j5).2) j21) ((F_0cradleFact j5 j21 ((L_4mixCradles_5 g T j5).2)).toInt64) ) (by first | rfl | (simp only [nI_add, pk_mul]; first | done | rfl)) rfl ?_
      refine AR.run g_X4_mixCradles_43_3 21 [some (.ref 4096), some (.long (g)), none, some (.long (F_4mix (L_4mixCradles_21 j5 ((L_4mixCradles_5 g T j5).1) ((L_4mixCradles_5 g T j5).2) j21) ((F_0cradleFact j5 j21 ((L_4mixCradles_5 g T j5).2)).toInt64))), none, some (.int (nI (j5))), some (.int ((nI (j21)) + (nI (1))))] [] _ [] rfl trivial ?_
      have e3 : L_4mixCradles_21 j5 ((L_4mixCradles_5 g T j5).1) ((L_4mixCradles_5 g T j5).2) (j21 + 1) = (F_4mix (L_4mixCradles_21 j5 ((L_4mixCradles_5 g T j5).1) ((L_4mixCradles_5 g T j5).2) j21) ((F_0cradleFact j5 j21 ((L_4mixCradles_5 g T j5).2)).toInt64)) := by rw [L_4mixCradles_21, B_4mixCradles_21]
      exact AR.cast (L' := [some (.ref 4096), some (.long (g)), none, some (.long (L_4mixCradles_21 j5 ((L_4mixCradles_5 g T j5).1) ((L_4mixCradles_5 g T j5).2) (j21 + 1))), none, some (.int (nI (j5))), some (.int (nI (j21 + 1)))]) (by rw [e3, nI_add]) rfl rfl (ih21 (by first | trivial | omega))
    · refine AR.run g_X4_mixCradles_21_2 24 [some (.ref 4096), some (.long (g)), none, some (.long (L_4mixCradles_21 j5 ((L_4mixCradles_5 g T j5).1) ((L_4mixCradles_5 g T j5).2) 6)), none, some (.int (nI (j5))), some (.int (nI (6)))] [.int (nI (5)), .int (nI (6))] _ [] rfl trivial ?_
      refine AR.gt2N (tgt := 50) (a := 6) (b := 5) dc_X4_mixCradles_24 (by decide) (by first | rfl | (simp only [nI_add, pk_mul]; first | done | rfl)) (by first | rfl | (simp only [nI_add, pk_mul]; first | done | rfl)) (by omega) (by omega) (fun c24_4 => ?_) (fun c24_4 => absurd c24_4 (by omega))
      refine AR.run g_X4_mixCradles_50_5 59 [some (.ref 4096), some (.long (g)), none, some (.long (L_4mixCradles_21 j5 ((L_4mixCradles_5 g T j5).1) ((L_4mixCradles_5 g T j5).2) 6)), none, some (.int (nI (j5))), some (.int (nI (6)))] [.int (nI (30)), .int (nI (j5)), .ref 4097, .long (L_4mixCradles_21 j5 ((L_4mixCradles_5 g T j5).1) ((L_4mixCradles_5 g T j5).2) 6)] _ [] rfl trivial ?_
      refine AR.callV1 (4097) [.int (nI (j5)), .int (nI (30))] [.long (L_4mixCradles_21 j5 ((L_4mixCradles_5 g T j5).1) ((L_4mixCradles_5 g T j5).2) 6)] lk_4_188 dc_X4_mixCradles_59 rfl rfl (s_0scansOnCradleIn _ j5 (nI (30)) hA_0 (by omega)) (by first | rfl | (simp only [nI_add, pk_mul]; first | done | rfl)) rfl ?_
      refine AR.run g_X4_mixCradles_62_1 63 [some (.ref 4096), some (.long (g)), none, some (.long (L_4mixCradles_21 j5 ((L_4mixCradles_5 g T j5).1) ((L_4mixCradles_5 g T j5).2) 6)), none, some (.int (nI (j5))), some (.int (nI (6)))] [.long ((F_0scansOnCradleIn j5 (nI (30)) ((L_4mixCradles_5 g T j5).2)).toInt64), .long (L_4mixCradles_21 j5 ((L_4mixCradles_5 g T j5).1) ((L_4mixCradles_5 g T j5).2) 6)] _ [] rfl trivial ?_
      refine AR.callS1 [.long (L_4mixCradles_21 j5 ((L_4mixCradles_5 g T j5).1) ((L_4mixCradles_5 g T j5).2) 6), .long ((F_0scansOnCradleIn j5 (nI (30)) ((L_4mixCradles_5 g T j5).2)).toInt64)] [] lk_4_210 dc_X4_mixCradles_63 (s_4mix _ (L_4mixCradles_21 j5 ((L_4mixCradles_5 g T j5).1) ((L_4mixCradles_5 g T j5).2) 6) ((F_0scansOnCradleIn j5 (nI (30)) ((L_4mixCradles_5 g T j5).2)).toInt64) ) (by first | rfl | (simp only [nI_add, pk_mul]; first | done | rfl)) rfl ?_
      refine AR.run g_X4_mixCradles_66_3 5 [some (.ref 4096), some (.long (g)), none, some (.long (F_4mix (L_4mixCradles_21 j5 ((L_4mixCradles_5 g T j5).1) ((L_4mixCradles_5 g T j5).2) 6) ((F_0scansOnCradleIn j5 (nI (30)) ((L_4mixCradles_5 g T j5).2)).toInt64))), none, some (.int ((nI (j5)) + (nI (1)))), some (.int (nI (6)))] [] _ [] rfl trivial ?_
      refine AR.drop (L' := [some (.ref 4096), some (.long (g)), none, some (.long (F_4mix (L_4mixCradles_21 j5 ((L_4mixCradles_5 g T j5).1) ((L_4mixCradles_5 g T j5).2) 6) ((F_0scansOnCradleIn j5 (nI (30)) ((L_4mixCradles_5 g T j5).2)).toInt64))), none, some (.int ((nI (j5)) + (nI (1)))), none]) ⟨rfl, rfl, rfl, rfl, trivial⟩ ?_
      have e5 : L_4mixCradles_5 g T (j5 + 1) = (F_4mix (L_4mixCradles_21 j5 ((L_4mixCradles_5 g T j5).1) ((L_4mixCradles_5 g T j5).2) 6) ((F_0scansOnCradleIn j5 (nI (30)) ((L_4mixCradles_5 g T j5).2)).toInt64), F_0scansOnCradleIn_T j5 (nI (30)) ((L_4mixCradles_5 g T j5).2)) := by rw [L_4mixCradles_5, B_4mixCradles_5]
      exact AR.cast (L' := [some (.ref 4096), some (.long (g)), none, some (.long ((L_4mixCradles_5 g T (j5 + 1)).1)), none, some (.int (nI (j5 + 1))), none]) (by rw [e5, nI_add]) rfl (by rw [e5]) (ih5 (by first | trivial | omega))
  · have hA_5 : TI ((L_4mixCradles_5 g T nc).2) nv nc nr ne := TI_mC hT h4 nc (by omega)
    refine AR.run g_X4_mixCradles_5_4 12 [some (.ref 4096), some (.long (g)), none, some (.long ((L_4mixCradles_5 g T nc).1)), none, some (.int (nI (nc))), none] [.int (nI (1)), .ref 4097, .int (nI (nc))] _ [] rfl trivial ?_
    refine AR.callV1 (4097) [.int (nI (1))] [.int (nI (nc))] lk_4_34 dc_X4_mixCradles_12 rfl rfl (s_0number _ 1 (by omega)) (by first | rfl | (simp only [nI_add, pk_mul]; first | done | rfl)) rfl ?_
    refine AR.top hA_5.2.1.1 ?_
    refine AR.ge2N (tgt := 73) (a := nc) (b := nc) dc_X4_mixCradles_15 (by decide) (by first | rfl | (simp only [nI_add, pk_mul]; first | done | rfl)) (by first | rfl | (simp only [nI_add, pk_mul]; first | done | rfl)) (by omega) (by omega) (fun c15_6 => ?_) (fun c15_6 => absurd c15_6 (by omega))
    refine AR.run g_X4_mixCradles_73_1 74 [some (.ref 4096), some (.long (g)), none, some (.long ((L_4mixCradles_5 g T nc).1)), none, some (.int (nI (nc))), none] [.long ((L_4mixCradles_5 g T nc).1)] _ [] rfl trivial ?_
    have e7_0 : F_4mixCradles g nc T = ((L_4mixCradles_5 g T nc).1) := by rw [F_4mixCradles]
    have e7_1 : F_4mixCradles_T g nc T = ((L_4mixCradles_5 g T nc).2) := by rw [F_4mixCradles_T]
    exact AR.retL dc_X4_mixCradles_74 rfl e7_0.symm (by rw [e7_1])
def B_4mixCarriers_21 (T : Nat → Nat → Int32) (j5 : Nat) (j21 : Nat) (x21_3 : Int64) : (Int64) := (F_4mix x21_3 (((T 3) (j5 * 4 + j21)).toInt64))
def L_4mixCarriers_21 (T : Nat → Nat → Int32) (j5 : Nat) (x5_3 : Int64) : Nat → (Int64)
  | 0 => x5_3
  | j + 1 => B_4mixCarriers_21 T j5 j (L_4mixCarriers_21 T j5 x5_3  j)
def B_4mixCarriers_5 (T : Nat → Nat → Int32) (j5 : Nat) (x5_3 : Int64) : (Int64) := (L_4mixCarriers_21 T j5 x5_3 4)
def L_4mixCarriers_5 (g : Int64) (T : Nat → Nat → Int32) : Nat → (Int64)
  | 0 => g
  | j + 1 => B_4mixCarriers_5 T j (L_4mixCarriers_5 g T  j)
theorem g_X4_mixCarriers_0_4 : ab_oks M_X4_mixCarriers [(0, .lload_n 1, 1, 1, 0, 0, .null), (1, .lstore_n 3, 1, 3, 0, 0, .null), (2, .iconst 0, 1, 0, 0, 0, .int (nI (0))), (3, .istore 5, 2, 5, 0, 0, .null)] = true := by decide +kernel
theorem g_X4_mixCarriers_5_4 : ab_oks M_X4_mixCarriers [(5, .iload 5, 2, 5, 0, 0, .null), (7, .aload_n 0, 1, 0, 0, 0, .null), (8, .getfield 10, 3, 4, 0, 235, .null), (11, .iconst 2, 1, 0, 0, 0, .int (nI (2)))] = true := by decide +kernel
theorem dc_X4_mixCarriers_12 : decode (AM.bytes M_X4_mixCarriers) 12 = .ok (.invokevirtual 34, 3) := by decide +kernel
theorem dc_X4_mixCarriers_15 : decode (AM.bytes M_X4_mixCarriers) 15 = .ok (.if_icmp .ge 41, 3) := by decide +kernel
theorem g_X4_mixCarriers_18_2 : ab_oks M_X4_mixCarriers [(18, .iconst 0, 1, 0, 0, 0, .int (nI (0))), (19, .istore 6, 2, 6, 0, 0, .null)] = true := by decide +kernel
theorem g_X4_mixCarriers_21_2 : ab_oks M_X4_mixCarriers [(21, .iload 6, 2, 6, 0, 0, .null), (23, .iconst 3, 1, 0, 0, 0, .int (nI (3)))] = true := by decide +kernel
theorem dc_X4_mixCarriers_24 : decode (AM.bytes M_X4_mixCarriers) 24 = .ok (.if_icmp .gt 26, 3) := by decide +kernel
theorem g_X4_mixCarriers_27_5 : ab_oks M_X4_mixCarriers [(27, .lload_n 3, 1, 3, 0, 0, .null), (28, .aload_n 0, 1, 0, 0, 0, .null), (29, .getfield 10, 3, 4, 0, 235, .null), (32, .iload 5, 2, 5, 0, 0, .null), (34, .iload 6, 2, 6, 0, 0, .null)] = true := by decide +kernel
theorem dc_X4_mixCarriers_36 : decode (AM.bytes M_X4_mixCarriers) 36 = .ok (.invokevirtual 173, 3) := by decide +kernel
theorem g_X4_mixCarriers_39_1 : ab_oks M_X4_mixCarriers [(39, .i2l, 1, 0, 0, 0, .null)] = true := by decide +kernel
theorem dc_X4_mixCarriers_40 : decode (AM.bytes M_X4_mixCarriers) 40 = .ok (.invokestatic 210, 3) := by decide +kernel
theorem g_X4_mixCarriers_43_3 : ab_oks M_X4_mixCarriers [(43, .lstore_n 3, 1, 3, 0, 0, .null), (44, .iinc 6 1, 3, 6, 0, 0, .int (nI (1))), (47, .goto (-26), 3, 21, 0, 0, .null)] = true := by decide +kernel
theorem g_X4_mixCarriers_50_2 : ab_oks M_X4_mixCarriers [(50, .iinc 5 1, 3, 5, 0, 0, .int (nI (1))), (53, .goto (-48), 3, 5, 0, 0, .null)] = true := by decide +kernel
theorem g_X4_mixCarriers_56_1 : ab_oks M_X4_mixCarriers [(56, .lload_n 3, 1, 3, 0, 0, .null)] = true := by decide +kernel
theorem dc_X4_mixCarriers_57 : decode (AM.bytes M_X4_mixCarriers) 57 = .ok (.lreturn, 1) := by decide +kernel
set_option maxRecDepth 100000 in
set_option maxHeartbeats 4000000 in
theorem s_4mixCarriers {E : AE} (d : Nat) (g : Int64) {nv : Nat} {nc : Nat} {nr : Nat} {ne : Nat}  {o0 m0 u0 l0 : List AC} {T K : Nat → Nat → Int32} {os sc : Int32} {tc tp : Nat → Int32} {tl_ tn trd tv tdg tf tla : Int32} {pg ph pc : Nat → Int32} {pm : Int32} (hT : TI T nv nc nr ne) : CT E M_X4_mixCarriers (d + 2) [.ref 4096, .long (g)] (hp o0 (ar T K os sc) (te_ tc tp tl_ tn trd tv tdg tf tla) (pl pg ph pc pm) m0 u0 l0) (.inl (some (.long (L_4mixCarriers_5 g T nr)))) (hp o0 (ar T K os sc) (te_ tc tp tl_ tn trd tv tdg tf tla) (pl pg ph pc pm) m0 u0 l0) 0 0 := by
  obtain ⟨⟨hnv, h12⟩, ⟨hnc, h4⟩, ⟨hnr, h3⟩, ⟨hne, h60⟩, hLT, hHT⟩ := id hT
  refine CT.of (L := [some (.ref 4096), some (.long (g)), none, none, none, none, none]) rfl rfl ?_
  refine AR.run g_X4_mixCarriers_0_4 5 [some (.ref 4096), some (.long (g)), none, some (.long (g)), none, some (.int (nI (0))), none] [] _ [] rfl trivial ?_
  refine AR.cast (L' := [some (.ref 4096), some (.long (g)), none, some (.long (L_4mixCarriers_5 g T 0)), none, some (.int (nI (0))), none]) (by first | rfl | (rw [L_4mixCarriers_5])) rfl rfl (AR.loopN nr (fun j5 => [some (.ref 4096), some (.long (g)), none, some (.long (L_4mixCarriers_5 g T j5)), none, some (.int (nI (j5))), none]) (fun j5 => (hp o0 (ar T K os sc) (te_ tc tp tl_ tn trd tv tdg tf tla) (pl pg ph pc pm) m0 u0 l0)) (fun j5 => True) (fun j5 hj5 hI5 ih5 => ?_) (fun hI5 => ?_) 0 (by omega) (by first | trivial | omega))
  · refine AR.run g_X4_mixCarriers_5_4 12 [some (.ref 4096), some (.long (g)), none, some (.long (L_4mixCarriers_5 g T j5)), none, some (.int (nI (j5))), none] [.int (nI (2)), .ref 4097, .int (nI (j5))] _ [] rfl trivial ?_
    refine AR.callV1 (4097) [.int (nI (2))] [.int (nI (j5))] lk_4_34 dc_X4_mixCarriers_12 rfl rfl (s_0number _ 2 (by omega)) (by first | rfl | (simp only [nI_add, pk_mul]; first | done | rfl)) rfl ?_
    refine AR.top hT.2.2.1.1 ?_
    refine AR.ge2N (tgt := 56) (a := j5) (b := nr) dc_X4_mixCarriers_15 (by decide) (by first | rfl | (simp only [nI_add, pk_mul]; first | done | rfl)) (by first | rfl | (simp only [nI_add, pk_mul]; first | done | rfl)) (by omega) (by omega) (fun c15_1 => absurd c15_1 (by omega)) (fun c15_1 => ?_)
    refine AR.run g_X4_mixCarriers_18_2 21 [some (.ref 4096), some (.long (g)), none, some (.long (L_4mixCarriers_5 g T j5)), none, some (.int (nI (j5))), some (.int (nI (0)))] [] _ [] rfl trivial ?_
    refine AR.cast (L' := [some (.ref 4096), some (.long (g)), none, some (.long (L_4mixCarriers_21 T j5 (L_4mixCarriers_5 g T j5) 0)), none, some (.int (nI (j5))), some (.int (nI (0)))]) (by first | rfl | (rw [L_4mixCarriers_21])) rfl rfl (AR.loopN 4 (fun j21 => [some (.ref 4096), some (.long (g)), none, some (.long (L_4mixCarriers_21 T j5 (L_4mixCarriers_5 g T j5) j21)), none, some (.int (nI (j5))), some (.int (nI (j21)))]) (fun j21 => (hp o0 (ar T K os sc) (te_ tc tp tl_ tn trd tv tdg tf tla) (pl pg ph pc pm) m0 u0 l0)) (fun j21 => True) (fun j21 hj21 hI21 ih21 => ?_) (fun hI21 => ?_) 0 (by omega) (by first | trivial | omega))
    · refine AR.run g_X4_mixCarriers_21_2 24 [some (.ref 4096), some (.long (g)), none, some (.long (L_4mixCarriers_21 T j5 (L_4mixCarriers_5 g T j5) j21)), none, some (.int (nI (j5))), some (.int (nI (j21)))] [.int (nI (3)), .int (nI (j21))] _ [] rfl trivial ?_
      refine AR.gt2N (tgt := 50) (a := j21) (b := 3) dc_X4_mixCarriers_24 (by decide) (by first | rfl | (simp only [nI_add, pk_mul]; first | done | rfl)) (by first | rfl | (simp only [nI_add, pk_mul]; first | done | rfl)) (by omega) (by omega) (fun c24_2 => absurd c24_2 (by omega)) (fun c24_2 => ?_)
      refine AR.run g_X4_mixCarriers_27_5 36 [some (.ref 4096), some (.long (g)), none, some (.long (L_4mixCarriers_21 T j5 (L_4mixCarriers_5 g T j5) j21)), none, some (.int (nI (j5))), some (.int (nI (j21)))] [.int (nI (j21)), .int (nI (j5)), .ref 4097, .long (L_4mixCarriers_21 T j5 (L_4mixCarriers_5 g T j5) j21)] _ [] rfl trivial ?_
      refine AR.callV1 (4097) [.int (nI (j5)), .int (nI (j21))] [.long (L_4mixCarriers_21 T j5 (L_4mixCarriers_5 g T j5) j21)] lk_4_173 dc_X4_mixCarriers_36 rfl rfl (s_0carrierFact _ j5 j21 (by omega) (by omega)) (by first | rfl | (simp only [nI_add, pk_mul]; first | done | rfl)) rfl ?_
      refine AR.run g_X4_mixCarriers_39_1 40 [some (.ref 4096), some (.long (g)), none, some (.long (L_4mixCarriers_21 T j5 (L_4mixCarriers_5 g T j5) j21)), none, some (.int (nI (j5))), some (.int (nI (j21)))] [.long (((T 3) (j5 * 4 + j21)).toInt64), .long (L_4mixCarriers_21 T j5 (L_4mixCarriers_5 g T j5) j21)] _ [] rfl trivial ?_
      refine AR.callS1 [.long (L_4mixCarriers_21 T j5 (L_4mixCarriers_5 g T j5) j21), .long (((T 3) (j5 * 4 + j21)).toInt64)] [] lk_4_210 dc_X4_mixCarriers_40 (s_4mix _ (L_4mixCarriers_21 T j5 (L_4mixCarriers_5 g T j5) j21) (((T 3) (j5 * 4 + j21)).toInt64) ) (by first | rfl | (simp only [nI_add, pk_mul]; first | done | rfl)) rfl ?_
      refine AR.run g_X4_mixCarriers_43_3 21 [some (.ref 4096), some (.long (g)), none, some (.long (F_4mix (L_4mixCarriers_21 T j5 (L_4mixCarriers_5 g T j5) j21) (((T 3) (j5 * 4 + j21)).toInt64))), none, some (.int (nI (j5))), some (.int ((nI (j21)) + (nI (1))))] [] _ [] rfl trivial ?_
      have e3 : L_4mixCarriers_21 T j5 (L_4mixCarriers_5 g T j5) (j21 + 1) = (F_4mix (L_4mixCarriers_21 T j5 (L_4mixCarriers_5 g T j5) j21) (((T 3) (j5 * 4 + j21)).toInt64)) := by rw [L_4mixCarriers_21, B_4mixCarriers_21]
      exact AR.cast (L' := [some (.ref 4096), some (.long (g)), none, some (.long (L_4mixCarriers_21 T j5 (L_4mixCarriers_5 g T j5) (j21 + 1))), none, some (.int (nI (j5))), some (.int (nI (j21 + 1)))]) (by rw [e3, nI_add]) rfl rfl (ih21 (by first | trivial | omega))
    · refine AR.run g_X4_mixCarriers_21_2 24 [some (.ref 4096), some (.long (g)), none, some (.long (L_4mixCarriers_21 T j5 (L_4mixCarriers_5 g T j5) 4)), none, some (.int (nI (j5))), some (.int (nI (4)))] [.int (nI (3)), .int (nI (4))] _ [] rfl trivial ?_
      refine AR.gt2N (tgt := 50) (a := 4) (b := 3) dc_X4_mixCarriers_24 (by decide) (by first | rfl | (simp only [nI_add, pk_mul]; first | done | rfl)) (by first | rfl | (simp only [nI_add, pk_mul]; first | done | rfl)) (by omega) (by omega) (fun c24_4 => ?_) (fun c24_4 => absurd c24_4 (by omega))
      refine AR.run g_X4_mixCarriers_50_2 5 [some (.ref 4096), some (.long (g)), none, some (.long (L_4mixCarriers_21 T j5 (L_4mixCarriers_5 g T j5) 4)), none, some (.int ((nI (j5)) + (nI (1)))), some (.int (nI (4)))] [] _ [] rfl trivial ?_
      refine AR.drop (L' := [some (.ref 4096), some (.long (g)), none, some (.long (L_4mixCarriers_21 T j5 (L_4mixCarriers_5 g T j5) 4)), none, some (.int ((nI (j5)) + (nI (1)))), none]) ⟨rfl, rfl, rfl, rfl, trivial⟩ ?_
      have e5 : L_4mixCarriers_5 g T (j5 + 1) = (L_4mixCarriers_21 T j5 (L_4mixCarriers_5 g T j5) 4) := by rw [L_4mixCarriers_5, B_4mixCarriers_5]
      exact AR.cast (L' := [some (.ref 4096), some (.long (g)), none, some (.long (L_4mixCarriers_5 g T (j5 + 1))), none, some (.int (nI (j5 + 1))), none]) (by rw [e5, nI_add]) rfl rfl (ih5 (by first | trivial | omega))
  · refine AR.run g_X4_mixCarriers_5_4 12 [some (.ref 4096), some (.long (g)), none, some (.long (L_4mixCarriers_5 g T nr)), none, some (.int (nI (nr))), none] [.int (nI (2)), .ref 4097, .int (nI (nr))] _ [] rfl trivial ?_
    refine AR.callV1 (4097) [.int (nI (2))] [.int (nI (nr))] lk_4_34 dc_X4_mixCarriers_12 rfl rfl (s_0number _ 2 (by omega)) (by first | rfl | (simp only [nI_add, pk_mul]; first | done | rfl)) rfl ?_
    refine AR.top hT.2.2.1.1 ?_
    refine AR.ge2N (tgt := 56) (a := nr) (b := nr) dc_X4_mixCarriers_15 (by decide) (by first | rfl | (simp only [nI_add, pk_mul]; first | done | rfl)) (by first | rfl | (simp only [nI_add, pk_mul]; first | done | rfl)) (by omega) (by omega) (fun c15_6 => ?_) (fun c15_6 => absurd c15_6 (by omega))
    refine AR.run g_X4_mixCarriers_56_1 57 [some (.ref 4096), some (.long (g)), none, some (.long (L_4mixCarriers_5 g T nr)), none, some (.int (nI (nr))), none] [.long (L_4mixCarriers_5 g T nr)] _ [] rfl trivial ?_
    exact AR.retL dc_X4_mixCarriers_57 rfl rfl rfl
def B_4mixEntries_21 (T : Nat → Nat → Int32) (j5 : Nat) (j21 : Nat) (x21_3 : Int64) : (Int64) := (F_4mix x21_3 (((T 4) (j5 * 5 + j21)).toInt64))
def L_4mixEntries_21 (T : Nat → Nat → Int32) (j5 : Nat) (x5_3 : Int64) : Nat → (Int64)
  | 0 => x5_3
  | j + 1 => B_4mixEntries_21 T j5 j (L_4mixEntries_21 T j5 x5_3  j)
def B_4mixEntries_5 (T : Nat → Nat → Int32) (j5 : Nat) (x5_3 : Int64) : (Int64) := (L_4mixEntries_21 T j5 x5_3 5)
def L_4mixEntries_5 (g : Int64) (T : Nat → Nat → Int32) : Nat → (Int64)
  | 0 => g
  | j + 1 => B_4mixEntries_5 T j (L_4mixEntries_5 g T  j)
theorem g_X4_mixEntries_0_4 : ab_oks M_X4_mixEntries [(0, .lload_n 1, 1, 1, 0, 0, .null), (1, .lstore_n 3, 1, 3, 0, 0, .null), (2, .iconst 0, 1, 0, 0, 0, .int (nI (0))), (3, .istore 5, 2, 5, 0, 0, .null)] = true := by decide +kernel
theorem g_X4_mixEntries_5_4 : ab_oks M_X4_mixEntries [(5, .iload 5, 2, 5, 0, 0, .null), (7, .aload_n 0, 1, 0, 0, 0, .null), (8, .getfield 10, 3, 4, 0, 235, .null), (11, .iconst 5, 1, 0, 0, 0, .int (nI (5)))] = true := by decide +kernel
theorem dc_X4_mixEntries_12 : decode (AM.bytes M_X4_mixEntries) 12 = .ok (.invokevirtual 34, 3) := by decide +kernel
theorem dc_X4_mixEntries_15 : decode (AM.bytes M_X4_mixEntries) 15 = .ok (.if_icmp .ge 41, 3) := by decide +kernel
theorem g_X4_mixEntries_18_2 : ab_oks M_X4_mixEntries [(18, .iconst 0, 1, 0, 0, 0, .int (nI (0))), (19, .istore 6, 2, 6, 0, 0, .null)] = true := by decide +kernel
theorem g_X4_mixEntries_21_2 : ab_oks M_X4_mixEntries [(21, .iload 6, 2, 6, 0, 0, .null), (23, .iconst 4, 1, 0, 0, 0, .int (nI (4)))] = true := by decide +kernel
theorem dc_X4_mixEntries_24 : decode (AM.bytes M_X4_mixEntries) 24 = .ok (.if_icmp .gt 26, 3) := by decide +kernel
theorem g_X4_mixEntries_27_5 : ab_oks M_X4_mixEntries [(27, .lload_n 3, 1, 3, 0, 0, .null), (28, .aload_n 0, 1, 0, 0, 0, .null), (29, .getfield 10, 3, 4, 0, 235, .null), (32, .iload 5, 2, 5, 0, 0, .null), (34, .iload 6, 2, 6, 0, 0, .null)] = true := by decide +kernel
theorem dc_X4_mixEntries_36 : decode (AM.bytes M_X4_mixEntries) 36 = .ok (.invokevirtual 176, 3) := by decide +kernel
theorem g_X4_mixEntries_39_1 : ab_oks M_X4_mixEntries [(39, .i2l, 1, 0, 0, 0, .null)] = true := by decide +kernel
theorem dc_X4_mixEntries_40 : decode (AM.bytes M_X4_mixEntries) 40 = .ok (.invokestatic 210, 3) := by decide +kernel
theorem g_X4_mixEntries_43_3 : ab_oks M_X4_mixEntries [(43, .lstore_n 3, 1, 3, 0, 0, .null), (44, .iinc 6 1, 3, 6, 0, 0, .int (nI (1))), (47, .goto (-26), 3, 21, 0, 0, .null)] = true := by decide +kernel
theorem g_X4_mixEntries_50_2 : ab_oks M_X4_mixEntries [(50, .iinc 5 1, 3, 5, 0, 0, .int (nI (1))), (53, .goto (-48), 3, 5, 0, 0, .null)] = true := by decide +kernel
theorem g_X4_mixEntries_56_1 : ab_oks M_X4_mixEntries [(56, .lload_n 3, 1, 3, 0, 0, .null)] = true := by decide +kernel
theorem dc_X4_mixEntries_57 : decode (AM.bytes M_X4_mixEntries) 57 = .ok (.lreturn, 1) := by decide +kernel
set_option maxRecDepth 100000 in
set_option maxHeartbeats 4000000 in
theorem s_4mixEntries {E : AE} (d : Nat) (g : Int64) {nv : Nat} {nc : Nat} {nr : Nat} {ne : Nat}  {o0 m0 u0 l0 : List AC} {T K : Nat → Nat → Int32} {os sc : Int32} {tc tp : Nat → Int32} {tl_ tn trd tv tdg tf tla : Int32} {pg ph pc : Nat → Int32} {pm : Int32} (hT : TI T nv nc nr ne) : CT E M_X4_mixEntries (d + 2) [.ref 4096, .long (g)] (hp o0 (ar T K os sc) (te_ tc tp tl_ tn trd tv tdg tf tla) (pl pg ph pc pm) m0 u0 l0) (.inl (some (.long (L_4mixEntries_5 g T ne)))) (hp o0 (ar T K os sc) (te_ tc tp tl_ tn trd tv tdg tf tla) (pl pg ph pc pm) m0 u0 l0) 0 0 := by
  obtain ⟨⟨hnv, h12⟩, ⟨hnc, h4⟩, ⟨hnr, h3⟩, ⟨hne, h60⟩, hLT, hHT⟩ := id hT
  refine CT.of (L := [some (.ref 4096), some (.long (g)), none, none, none, none, none]) rfl rfl ?_
  refine AR.run g_X4_mixEntries_0_4 5 [some (.ref 4096), some (.long (g)), none, some (.long (g)), none, some (.int (nI (0))), none] [] _ [] rfl trivial ?_
  refine AR.cast (L' := [some (.ref 4096), some (.long (g)), none, some (.long (L_4mixEntries_5 g T 0)), none, some (.int (nI (0))), none]) (by first | rfl | (rw [L_4mixEntries_5])) rfl rfl (AR.loopN ne (fun j5 => [some (.ref 4096), some (.long (g)), none, some (.long (L_4mixEntries_5 g T j5)), none, some (.int (nI (j5))), none]) (fun j5 => (hp o0 (ar T K os sc) (te_ tc tp tl_ tn trd tv tdg tf tla) (pl pg ph pc pm) m0 u0 l0)) (fun j5 => True) (fun j5 hj5 hI5 ih5 => ?_) (fun hI5 => ?_) 0 (by omega) (by first | trivial | omega))
  · refine AR.run g_X4_mixEntries_5_4 12 [some (.ref 4096), some (.long (g)), none, some (.long (L_4mixEntries_5 g T j5)), none, some (.int (nI (j5))), none] [.int (nI (5)), .ref 4097, .int (nI (j5))] _ [] rfl trivial ?_
    refine AR.callV1 (4097) [.int (nI (5))] [.int (nI (j5))] lk_4_34 dc_X4_mixEntries_12 rfl rfl (s_0number _ 5 (by omega)) (by first | rfl | (simp only [nI_add, pk_mul]; first | done | rfl)) rfl ?_
    refine AR.top hT.2.2.2.1.1 ?_
    refine AR.ge2N (tgt := 56) (a := j5) (b := ne) dc_X4_mixEntries_15 (by decide) (by first | rfl | (simp only [nI_add, pk_mul]; first | done | rfl)) (by first | rfl | (simp only [nI_add, pk_mul]; first | done | rfl)) (by omega) (by omega) (fun c15_1 => absurd c15_1 (by omega)) (fun c15_1 => ?_)
    refine AR.run g_X4_mixEntries_18_2 21 [some (.ref 4096), some (.long (g)), none, some (.long (L_4mixEntries_5 g T j5)), none, some (.int (nI (j5))), some (.int (nI (0)))] [] _ [] rfl trivial ?_
    refine AR.cast (L' := [some (.ref 4096), some (.long (g)), none, some (.long (L_4mixEntries_21 T j5 (L_4mixEntries_5 g T j5) 0)), none, some (.int (nI (j5))), some (.int (nI (0)))]) (by first | rfl | (rw [L_4mixEntries_21])) rfl rfl (AR.loopN 5 (fun j21 => [some (.ref 4096), some (.long (g)), none, some (.long (L_4mixEntries_21 T j5 (L_4mixEntries_5 g T j5) j21)), none, some (.int (nI (j5))), some (.int (nI (j21)))]) (fun j21 => (hp o0 (ar T K os sc) (te_ tc tp tl_ tn trd tv tdg tf tla) (pl pg ph pc pm) m0 u0 l0)) (fun j21 => True) (fun j21 hj21 hI21 ih21 => ?_) (fun hI21 => ?_) 0 (by omega) (by first | trivial | omega))
    · refine AR.run g_X4_mixEntries_21_2 24 [some (.ref 4096), some (.long (g)), none, some (.long (L_4mixEntries_21 T j5 (L_4mixEntries_5 g T j5) j21)), none, some (.int (nI (j5))), some (.int (nI (j21)))] [.int (nI (4)), .int (nI (j21))] _ [] rfl trivial ?_
      refine AR.gt2N (tgt := 50) (a := j21) (b := 4) dc_X4_mixEntries_24 (by decide) (by first | rfl | (simp only [nI_add, pk_mul]; first | done | rfl)) (by first | rfl | (simp only [nI_add, pk_mul]; first | done | rfl)) (by omega) (by omega) (fun c24_2 => absurd c24_2 (by omega)) (fun c24_2 => ?_)
      refine AR.run g_X4_mixEntries_27_5 36 [some (.ref 4096), some (.long (g)), none, some (.long (L_4mixEntries_21 T j5 (L_4mixEntries_5 g T j5) j21)), none, some (.int (nI (j5))), some (.int (nI (j21)))] [.int (nI (j21)), .int (nI (j5)), .ref 4097, .long (L_4mixEntries_21 T j5 (L_4mixEntries_5 g T j5) j21)] _ [] rfl trivial ?_
      refine AR.callV1 (4097) [.int (nI (j5)), .int (nI (j21))] [.long (L_4mixEntries_21 T j5 (L_4mixEntries_5 g T j5) j21)] lk_4_176 dc_X4_mixEntries_36 rfl rfl (s_0entryFact _ j5 j21 (by omega) (by omega)) (by first | rfl | (simp only [nI_add, pk_mul]; first | done | rfl)) rfl ?_
      refine AR.run g_X4_mixEntries_39_1 40 [some (.ref 4096), some (.long (g)), none, some (.long (L_4mixEntries_21 T j5 (L_4mixEntries_5 g T j5) j21)), none, some (.int (nI (j5))), some (.int (nI (j21)))] [.long (((T 4) (j5 * 5 + j21)).toInt64), .long (L_4mixEntries_21 T j5 (L_4mixEntries_5 g T j5) j21)] _ [] rfl trivial ?_
      refine AR.callS1 [.long (L_4mixEntries_21 T j5 (L_4mixEntries_5 g T j5) j21), .long (((T 4) (j5 * 5 + j21)).toInt64)] [] lk_4_210 dc_X4_mixEntries_40 (s_4mix _ (L_4mixEntries_21 T j5 (L_4mixEntries_5 g T j5) j21) (((T 4) (j5 * 5 + j21)).toInt64) ) (by first | rfl | (simp only [nI_add, pk_mul]; first | done | rfl)) rfl ?_
      refine AR.run g_X4_mixEntries_43_3 21 [some (.ref 4096), some (.long (g)), none, some (.long (F_4mix (L_4mixEntries_21 T j5 (L_4mixEntries_5 g T j5) j21) (((T 4) (j5 * 5 + j21)).toInt64))), none, some (.int (nI (j5))), some (.int ((nI (j21)) + (nI (1))))] [] _ [] rfl trivial ?_
      have e3 : L_4mixEntries_21 T j5 (L_4mixEntries_5 g T j5) (j21 + 1) = (F_4mix (L_4mixEntries_21 T j5 (L_4mixEntries_5 g T j5) j21) (((T 4) (j5 * 5 + j21)).toInt64)) := by rw [L_4mixEntries_21, B_4mixEntries_21]
      exact AR.cast (L' := [some (.ref 4096), some (.long (g)), none, some (.long (L_4mixEntries_21 T j5 (L_4mixEntries_5 g T j5) (j21 + 1))), none, some (.int (nI (j5))), some (.int (nI (j21 + 1)))]) (by rw [e3, nI_add]) rfl rfl (ih21 (by first | trivial | omega))
    · refine AR.run g_X4_mixEntries_21_2 24 [some (.ref 4096), some (.long (g)), none, some (.long (L_4mixEntries_21 T j5 (L_4mixEntries_5 g T j5) 5)), none, some (.int (nI (j5))), some (.int (nI (5)))] [.int (nI (4)), .int (nI (5))] _ [] rfl trivial ?_
      refine AR.gt2N (tgt := 50) (a := 5) (b := 4) dc_X4_mixEntries_24 (by decide) (by first | rfl | (simp only [nI_add, pk_mul]; first | done | rfl)) (by first | rfl | (simp only [nI_add, pk_mul]; first | done | rfl)) (by omega) (by omega) (fun c24_4 => ?_) (fun c24_4 => absurd c24_4 (by omega))
      refine AR.run g_X4_mixEntries_50_2 5 [some (.ref 4096), some (.long (g)), none, some (.long (L_4mixEntries_21 T j5 (L_4mixEntries_5 g T j5) 5)), none, some (.int ((nI (j5)) + (nI (1)))), some (.int (nI (5)))] [] _ [] rfl trivial ?_
      refine AR.drop (L' := [some (.ref 4096), some (.long (g)), none, some (.long (L_4mixEntries_21 T j5 (L_4mixEntries_5 g T j5) 5)), none, some (.int ((nI (j5)) + (nI (1)))), none]) ⟨rfl, rfl, rfl, rfl, trivial⟩ ?_
      have e5 : L_4mixEntries_5 g T (j5 + 1) = (L_4mixEntries_21 T j5 (L_4mixEntries_5 g T j5) 5) := by rw [L_4mixEntries_5, B_4mixEntries_5]
      exact AR.cast (L' := [some (.ref 4096), some (.long (g)), none, some (.long (L_4mixEntries_5 g T (j5 + 1))), none, some (.int (nI (j5 + 1))), none]) (by rw [e5, nI_add]) rfl rfl (ih5 (by first | trivial | omega))
  · refine AR.run g_X4_mixEntries_5_4 12 [some (.ref 4096), some (.long (g)), none, some (.long (L_4mixEntries_5 g T ne)), none, some (.int (nI (ne))), none] [.int (nI (5)), .ref 4097, .int (nI (ne))] _ [] rfl trivial ?_
    refine AR.callV1 (4097) [.int (nI (5))] [.int (nI (ne))] lk_4_34 dc_X4_mixEntries_12 rfl rfl (s_0number _ 5 (by omega)) (by first | rfl | (simp only [nI_add, pk_mul]; first | done | rfl)) rfl ?_
    refine AR.top hT.2.2.2.1.1 ?_
    refine AR.ge2N (tgt := 56) (a := ne) (b := ne) dc_X4_mixEntries_15 (by decide) (by first | rfl | (simp only [nI_add, pk_mul]; first | done | rfl)) (by first | rfl | (simp only [nI_add, pk_mul]; first | done | rfl)) (by omega) (by omega) (fun c15_6 => ?_) (fun c15_6 => absurd c15_6 (by omega))
    refine AR.run g_X4_mixEntries_56_1 57 [some (.ref 4096), some (.long (g)), none, some (.long (L_4mixEntries_5 g T ne)), none, some (.int (nI (ne))), none] [.long (L_4mixEntries_5 g T ne)] _ [] rfl trivial ?_
    exact AR.retL dc_X4_mixEntries_57 rfl rfl rfl
def B_4mixText_16 (tc : Nat → Int32) (j16 : Nat) (x16_3 : Int64) : (Int64) := (F_4mix x16_3 ((tc j16).toInt64))
def L_4mixText_16 (g : Int64) (q : Nat) (tc : Nat → Int32) : Nat → (Int64)
  | 0 => F_4mix g ((nI (q)).toInt64)
  | j + 1 => B_4mixText_16 tc j (L_4mixText_16 g q tc  j)
theorem g_X4_mixText_0_3 : ab_oks M_X4_mixText [(0, .lload_n 1, 1, 1, 0, 0, .null), (1, .aload_n 0, 1, 0, 0, 0, .null), (2, .getfield 19, 3, 4, 1, 236, .null)] = true := by decide +kernel
theorem dc_X4_mixText_5 : decode (AM.bytes M_X4_mixText) 5 = .ok (.invokevirtual 121, 3) := by decide +kernel
theorem g_X4_mixText_8_1 : ab_oks M_X4_mixText [(8, .i2l, 1, 0, 0, 0, .null)] = true := by decide +kernel
theorem dc_X4_mixText_9 : decode (AM.bytes M_X4_mixText) 9 = .ok (.invokestatic 210, 3) := by decide +kernel
theorem g_X4_mixText_12_3 : ab_oks M_X4_mixText [(12, .lstore_n 3, 1, 3, 0, 0, .null), (13, .iconst 0, 1, 0, 0, 0, .int (nI (0))), (14, .istore 5, 2, 5, 0, 0, .null)] = true := by decide +kernel
theorem g_X4_mixText_16_3 : ab_oks M_X4_mixText [(16, .iload 5, 2, 5, 0, 0, .null), (18, .aload_n 0, 1, 0, 0, 0, .null), (19, .getfield 19, 3, 4, 1, 236, .null)] = true := by decide +kernel
theorem dc_X4_mixText_22 : decode (AM.bytes M_X4_mixText) 22 = .ok (.invokevirtual 121, 3) := by decide +kernel
theorem dc_X4_mixText_25 : decode (AM.bytes M_X4_mixText) 25 = .ok (.if_icmp .ge 24, 3) := by decide +kernel
theorem g_X4_mixText_28_4 : ab_oks M_X4_mixText [(28, .lload_n 3, 1, 3, 0, 0, .null), (29, .aload_n 0, 1, 0, 0, 0, .null), (30, .getfield 19, 3, 4, 1, 236, .null), (33, .iload 5, 2, 5, 0, 0, .null)] = true := by decide +kernel
theorem lk_4_236 : ab_lkV "LeafCradles" 236 M_X1_codeAt 1 [519, 266, 267, 95, 268] = true := by decide +kernel
theorem dc_X4_mixText_35 : decode (AM.bytes M_X4_mixText) 35 = .ok (.invokevirtual 236, 3) := by decide +kernel
theorem g_X4_mixText_38_1 : ab_oks M_X4_mixText [(38, .i2l, 1, 0, 0, 0, .null)] = true := by decide +kernel
theorem dc_X4_mixText_39 : decode (AM.bytes M_X4_mixText) 39 = .ok (.invokestatic 210, 3) := by decide +kernel
theorem g_X4_mixText_42_3 : ab_oks M_X4_mixText [(42, .lstore_n 3, 1, 3, 0, 0, .null), (43, .iinc 5 1, 3, 5, 0, 0, .int (nI (1))), (46, .goto (-30), 3, 16, 0, 0, .null)] = true := by decide +kernel
theorem g_X4_mixText_49_1 : ab_oks M_X4_mixText [(49, .lload_n 3, 1, 3, 0, 0, .null)] = true := by decide +kernel
theorem dc_X4_mixText_50 : decode (AM.bytes M_X4_mixText) 50 = .ok (.lreturn, 1) := by decide +kernel
set_option maxRecDepth 100000 in
set_option maxHeartbeats 4000000 in
theorem s_4mixText {E : AE} (d : Nat) (g : Int64) {q : Nat}  {o0 m0 u0 l0 : List AC} {T K : Nat → Nat → Int32} {os sc : Int32} {tc tp : Nat → Int32} {tl_ tn trd tv tdg tf tla : Int32} {pg ph pc : Nat → Int32} {pm : Int32} (hln : tl_ = nI q) (hq : q ≤ 60) : CT E M_X4_mixText (d + 1) [.ref 4096, .long (g)] (hp o0 (ar T K os sc) (te_ tc tp tl_ tn trd tv tdg tf tla) (pl pg ph pc pm) m0 u0 l0) (.inl (some (.long (L_4mixText_16 g q tc q)))) (hp o0 (ar T K os sc) (te_ tc tp tl_ tn trd tv tdg tf tla) (pl pg ph pc pm) m0 u0 l0) 0 0 := by
  refine CT.of (L := [some (.ref 4096), some (.long (g)), none, none, none, none]) rfl rfl ?_
  refine AR.run g_X4_mixText_0_3 5 [some (.ref 4096), some (.long (g)), none, none, none, none] [.ref 8192, .long (g)] _ [] rfl trivial ?_
  refine AR.callV1 (8192) [] [.long (g)] lk_4_121 dc_X4_mixText_5 rfl rfl (s_1length _  ) (by first | rfl | (simp only [nI_add, pk_mul]; first | done | rfl)) rfl ?_
  refine AR.top hln ?_
  refine AR.run g_X4_mixText_8_1 9 [some (.ref 4096), some (.long (g)), none, none, none, none] [.long ((nI (q)).toInt64), .long (g)] _ [] rfl trivial ?_
  refine AR.callS1 [.long (g), .long ((nI (q)).toInt64)] [] lk_4_210 dc_X4_mixText_9 (s_4mix _ g ((nI (q)).toInt64) ) (by first | rfl | (simp only [nI_add, pk_mul]; first | done | rfl)) rfl ?_
  refine AR.run g_X4_mixText_12_3 16 [some (.ref 4096), some (.long (g)), none, some (.long (F_4mix g ((nI (q)).toInt64))), none, some (.int (nI (0)))] [] _ [] rfl trivial ?_
  refine AR.cast (L' := [some (.ref 4096), some (.long (g)), none, some (.long (L_4mixText_16 g q tc 0)), none, some (.int (nI (0)))]) (by first | rfl | (rw [L_4mixText_16])) rfl rfl (AR.loopN q (fun j16 => [some (.ref 4096), some (.long (g)), none, some (.long (L_4mixText_16 g q tc j16)), none, some (.int (nI (j16)))]) (fun j16 => (hp o0 (ar T K os sc) (te_ tc tp tl_ tn trd tv tdg tf tla) (pl pg ph pc pm) m0 u0 l0)) (fun j16 => True) (fun j16 hj16 hI16 ih16 => ?_) (fun hI16 => ?_) 0 (by omega) (by first | trivial | omega))
  · refine AR.run g_X4_mixText_16_3 22 [some (.ref 4096), some (.long (g)), none, some (.long (L_4mixText_16 g q tc j16)), none, some (.int (nI (j16)))] [.ref 8192, .int (nI (j16))] _ [] rfl trivial ?_
    refine AR.callV1 (8192) [] [.int (nI (j16))] lk_4_121 dc_X4_mixText_22 rfl rfl (s_1length _  ) (by first | rfl | (simp only [nI_add, pk_mul]; first | done | rfl)) rfl ?_
    refine AR.top hln ?_
    refine AR.ge2N (tgt := 49) (a := j16) (b := q) dc_X4_mixText_25 (by decide) (by first | rfl | (simp only [nI_add, pk_mul]; first | done | rfl)) (by first | rfl | (simp only [nI_add, pk_mul]; first | done | rfl)) (by omega) (by omega) (fun c25_1 => absurd c25_1 (by omega)) (fun c25_1 => ?_)
    refine AR.run g_X4_mixText_28_4 35 [some (.ref 4096), some (.long (g)), none, some (.long (L_4mixText_16 g q tc j16)), none, some (.int (nI (j16)))] [.int (nI (j16)), .ref 8192, .long (L_4mixText_16 g q tc j16)] _ [] rfl trivial ?_
    refine AR.callV1 (8192) [.int (nI (j16))] [.long (L_4mixText_16 g q tc j16)] lk_4_236 dc_X4_mixText_35 rfl rfl (s_1codeAt _ j16 (by assumption) (by omega) (by omega)) (by first | rfl | (simp only [nI_add, pk_mul]; first | done | rfl)) rfl ?_
    refine AR.run g_X4_mixText_38_1 39 [some (.ref 4096), some (.long (g)), none, some (.long (L_4mixText_16 g q tc j16)), none, some (.int (nI (j16)))] [.long ((tc j16).toInt64), .long (L_4mixText_16 g q tc j16)] _ [] rfl trivial ?_
    refine AR.callS1 [.long (L_4mixText_16 g q tc j16), .long ((tc j16).toInt64)] [] lk_4_210 dc_X4_mixText_39 (s_4mix _ (L_4mixText_16 g q tc j16) ((tc j16).toInt64) ) (by first | rfl | (simp only [nI_add, pk_mul]; first | done | rfl)) rfl ?_
    refine AR.run g_X4_mixText_42_3 16 [some (.ref 4096), some (.long (g)), none, some (.long (F_4mix (L_4mixText_16 g q tc j16) ((tc j16).toInt64))), none, some (.int ((nI (j16)) + (nI (1))))] [] _ [] rfl trivial ?_
    have e2 : L_4mixText_16 g q tc (j16 + 1) = (F_4mix (L_4mixText_16 g q tc j16) ((tc j16).toInt64)) := by rw [L_4mixText_16, B_4mixText_16]
    exact AR.cast (L' := [some (.ref 4096), some (.long (g)), none, some (.long (L_4mixText_16 g q tc (j16 + 1))), none, some (.int (nI (j16 + 1)))]) (by rw [e2, nI_add]) rfl rfl (ih16 (by first | trivial | omega))
  · refine AR.run g_X4_mixText_16_3 22 [some (.ref 4096), some (.long (g)), none, some (.long (L_4mixText_16 g q tc q)), none, some (.int (nI (q)))] [.ref 8192, .int (nI (q))] _ [] rfl trivial ?_
    refine AR.callV1 (8192) [] [.int (nI (q))] lk_4_121 dc_X4_mixText_22 rfl rfl (s_1length _  ) (by first | rfl | (simp only [nI_add, pk_mul]; first | done | rfl)) rfl ?_
    refine AR.top hln ?_
    refine AR.ge2N (tgt := 49) (a := q) (b := q) dc_X4_mixText_25 (by decide) (by first | rfl | (simp only [nI_add, pk_mul]; first | done | rfl)) (by first | rfl | (simp only [nI_add, pk_mul]; first | done | rfl)) (by omega) (by omega) (fun c25_3 => ?_) (fun c25_3 => absurd c25_3 (by omega))
    refine AR.run g_X4_mixText_49_1 50 [some (.ref 4096), some (.long (g)), none, some (.long (L_4mixText_16 g q tc q)), none, some (.int (nI (q)))] [.long (L_4mixText_16 g q tc q)] _ [] rfl trivial ?_
    exact AR.retL dc_X4_mixText_50 rfl rfl rfl
theorem TI_mUDF {T : Nat → Nat → Int32} {nv nc nr ne : Nat} (hT : TI T nv nc nr ne) (h4 : nc ≤ 4) : TI (F_0minutesUntilDone_T nc T) nv nc nr ne := by
  unfold F_0minutesUntilDone_T
  split <;> exact TI_mUD hT h4 nc h4
def B_4digest_6 (nv : Nat) (nc : Nat) (T : Nat → Nat → Int32) (sc : Int32) (j6 : Nat) (x6_1 : Int64) : (Int64) := (F_4mix x6_1 ((F_0total j6 nv nc T sc).toInt64))
def L_4digest_6 (nv : Nat) (nc : Nat) (T : Nat → Nat → Int32) (sc : Int32) : Nat → (Int64)
  | 0 => 2341
  | j + 1 => B_4digest_6 nv nc T sc j (L_4digest_6 nv nc T sc  j)
def B_4digest_34 (T : Nat → Nat → Int32) (j34 : Nat) (x34_1 : Int64) : (Int64) := (F_4mix x34_1 (((T 5) (7 + j34)).toInt64))
def L_4digest_34 (nv : Nat) (nc : Nat) (T : Nat → Nat → Int32) (sc : Int32) : Nat → (Int64)
  | 0 => L_4digest_6 nv nc T sc 14
  | j + 1 => B_4digest_34 T j (L_4digest_34 nv nc T sc  j)
def B_4digest_114 (nv : Nat) (nc : Nat) (nr : Nat) (ne : Nat) (T : Nat → Nat → Int32) (sc : Int32) (pg : Nat → Int32) (ph : Nat → Int32) (pc : Nat → Int32) (j114 : Nat) (x114_1 : Int64) : (Int64) := (F_4mix x114_1 ((F_2answer j114 (F_2make_pc (nI (20)) nv nc (F_0minutesUntilDone_T nc (F_4mixCradles_T (L_4mixVolumes_5 (L_4digest_34 nv nc T sc 4) nr ne T nv) nc T)) pg ph pc) (F_2make_pm (nI (20)) nv nc (F_0minutesUntilDone_T nc (F_4mixCradles_T (L_4mixVolumes_5 (L_4digest_34 nv nc T sc 4) nr ne T nv) nc T)) pg ph pc)).toInt64))
def L_4digest_114 (nv : Nat) (nc : Nat) (nr : Nat) (ne : Nat) (T : Nat → Nat → Int32) (sc : Int32) (pg : Nat → Int32) (ph : Nat → Int32) (pc : Nat → Int32) : Nat → (Int64)
  | 0 => F_4mix (L_4mixEntries_5 (L_4mixCarriers_5 (F_4mixCradles (L_4mixVolumes_5 (L_4digest_34 nv nc T sc 4) nr ne T nv) nc T) (F_4mixCradles_T (L_4mixVolumes_5 (L_4digest_34 nv nc T sc 4) nr ne T nv) nc T) nr) (F_4mixCradles_T (L_4mixVolumes_5 (L_4digest_34 nv nc T sc 4) nr ne T nv) nc T) ne) ((F_0minutesUntilDone nc (F_4mixCradles_T (L_4mixVolumes_5 (L_4digest_34 nv nc T sc 4) nr ne T nv) nc T)).toInt64)
  | j + 1 => B_4digest_114 nv nc nr ne T sc pg ph pc j (L_4digest_114 nv nc nr ne T sc pg ph pc  j)
def F_4digest (nv : Nat) (nc : Nat) (nr : Nat) (ne : Nat) (q : Nat) (T : Nat → Nat → Int32) (sc : Int32) (tc : Nat → Int32) (pg : Nat → Int32) (ph : Nat → Int32) (pc : Nat → Int32) : Int64 := (L_4mixText_16 (F_4mix (L_4digest_114 nv nc nr ne T sc pg ph pc 5) (F_4bitsOfShare (F_0shareOfOpenLeaves nv (F_2make_T (nI (20)) nv nc (F_0minutesUntilDone_T nc (F_4mixCradles_T (L_4mixVolumes_5 (L_4digest_34 nv nc T sc 4) nr ne T nv) nc T)) pg ph)))) q tc q)
def F_4digest_T (nv : Nat) (nc : Nat) (nr : Nat) (ne : Nat) (T : Nat → Nat → Int32) (sc : Int32) (pg : Nat → Int32) (ph : Nat → Int32) : Nat → Nat → Int32 := (F_2make_T (nI (20)) nv nc (F_0minutesUntilDone_T nc (F_4mixCradles_T (L_4mixVolumes_5 (L_4digest_34 nv nc T sc 4) nr ne T nv) nc T)) pg ph)
def F_4digest_pg (nv : Nat) (nc : Nat) (nr : Nat) (ne : Nat) (T : Nat → Nat → Int32) (sc : Int32) (pg : Nat → Int32) (ph : Nat → Int32) : Nat → Int32 := (F_2make_pg (nI (20)) nv nc (F_0minutesUntilDone_T nc (F_4mixCradles_T (L_4mixVolumes_5 (L_4digest_34 nv nc T sc 4) nr ne T nv) nc T)) pg ph)
def F_4digest_ph (nv : Nat) (nc : Nat) (nr : Nat) (ne : Nat) (T : Nat → Nat → Int32) (sc : Int32) (pg : Nat → Int32) (ph : Nat → Int32) : Nat → Int32 := (F_2make_ph (nI (20)) nv nc (F_0minutesUntilDone_T nc (F_4mixCradles_T (L_4mixVolumes_5 (L_4digest_34 nv nc T sc 4) nr ne T nv) nc T)) pg ph)
def F_4digest_pc (nv : Nat) (nc : Nat) (nr : Nat) (ne : Nat) (T : Nat → Nat → Int32) (sc : Int32) (pg : Nat → Int32) (ph : Nat → Int32) (pc : Nat → Int32) : Nat → Int32 := (F_2make_pc (nI (20)) nv nc (F_0minutesUntilDone_T nc (F_4mixCradles_T (L_4mixVolumes_5 (L_4digest_34 nv nc T sc 4) nr ne T nv) nc T)) pg ph pc)
def F_4digest_pm (nv : Nat) (nc : Nat) (nr : Nat) (ne : Nat) (T : Nat → Nat → Int32) (sc : Int32) (pg : Nat → Int32) (ph : Nat → Int32) (pc : Nat → Int32) : Int32 := (F_2make_pm (nI (20)) nv nc (F_0minutesUntilDone_T nc (F_4mixCradles_T (L_4mixVolumes_5 (L_4digest_34 nv nc T sc 4) nr ne T nv) nc T)) pg ph pc)
theorem g_X4_digest_0_4 : ab_oks M_X4_digest [(0, .ldc2_w 208, 3, 0, 0, 397, .long (2341)), (3, .lstore_n 1, 1, 1, 0, 0, .null), (4, .iconst 0, 1, 0, 0, 0, .int (nI (0))), (5, .istore_n 3, 1, 3, 0, 0, .null)] = true := by decide +kernel
theorem g_X4_digest_6_2 : ab_oks M_X4_digest [(6, .iload_n 3, 1, 3, 0, 0, .null), (7, .bipush 13, 2, 0, 0, 0, .int (nI (13)))] = true := by decide +kernel
theorem dc_X4_digest_9 : decode (AM.bytes M_X4_digest) 9 = .ok (.if_icmp .gt 23, 3) := by decide +kernel
theorem g_X4_digest_12_4 : ab_oks M_X4_digest [(12, .lload_n 1, 1, 1, 0, 0, .null), (13, .aload_n 0, 1, 0, 0, 0, .null), (14, .getfield 10, 3, 4, 0, 235, .null), (17, .iload_n 3, 1, 3, 0, 0, .null)] = true := by decide +kernel
theorem dc_X4_digest_18 : decode (AM.bytes M_X4_digest) 18 = .ok (.invokevirtual 182, 3) := by decide +kernel
theorem g_X4_digest_21_1 : ab_oks M_X4_digest [(21, .i2l, 1, 0, 0, 0, .null)] = true := by decide +kernel
theorem dc_X4_digest_22 : decode (AM.bytes M_X4_digest) 22 = .ok (.invokestatic 210, 3) := by decide +kernel
theorem g_X4_digest_25_3 : ab_oks M_X4_digest [(25, .lstore_n 1, 1, 1, 0, 0, .null), (26, .iinc 3 1, 3, 3, 0, 0, .int (nI (1))), (29, .goto (-23), 3, 6, 0, 0, .null)] = true := by decide +kernel
theorem g_X4_digest_32_2 : ab_oks M_X4_digest [(32, .iconst 0, 1, 0, 0, 0, .int (nI (0))), (33, .istore_n 3, 1, 3, 0, 0, .null)] = true := by decide +kernel
theorem g_X4_digest_34_2 : ab_oks M_X4_digest [(34, .iload_n 3, 1, 3, 0, 0, .null), (35, .iconst 4, 1, 0, 0, 0, .int (nI (4)))] = true := by decide +kernel
theorem dc_X4_digest_36 : decode (AM.bytes M_X4_digest) 36 = .ok (.if_icmp .ge 26, 3) := by decide +kernel
theorem g_X4_digest_39_6 : ab_oks M_X4_digest [(39, .lload_n 1, 1, 1, 0, 0, .null), (40, .aload_n 0, 1, 0, 0, 0, .null), (41, .getfield 10, 3, 4, 0, 235, .null), (44, .bipush 7, 2, 0, 0, 0, .int (nI (7))), (46, .iload_n 3, 1, 3, 0, 0, .null), (47, .iadd, 1, 0, 0, 0, .null)] = true := by decide +kernel
theorem dc_X4_digest_48 : decode (AM.bytes M_X4_digest) 48 = .ok (.invokevirtual 34, 3) := by decide +kernel
theorem g_X4_digest_51_1 : ab_oks M_X4_digest [(51, .i2l, 1, 0, 0, 0, .null)] = true := by decide +kernel
theorem dc_X4_digest_52 : decode (AM.bytes M_X4_digest) 52 = .ok (.invokestatic 210, 3) := by decide +kernel
theorem g_X4_digest_55_3 : ab_oks M_X4_digest [(55, .lstore_n 1, 1, 1, 0, 0, .null), (56, .iinc 3 1, 3, 3, 0, 0, .int (nI (1))), (59, .goto (-25), 3, 34, 0, 0, .null)] = true := by decide +kernel
theorem g_X4_digest_62_2 : ab_oks M_X4_digest [(62, .aload_n 0, 1, 0, 0, 0, .null), (63, .lload_n 1, 1, 1, 0, 0, .null)] = true := by decide +kernel
theorem lk_4_214 : ab_lkV "LeafCradles" 214 M_X4_mixVolumes 1 [411, 413, 19, 91, 414] = true := by decide +kernel
theorem dc_X4_digest_64 : decode (AM.bytes M_X4_digest) 64 = .ok (.invokevirtual 214, 3) := by decide +kernel
theorem g_X4_digest_67_3 : ab_oks M_X4_digest [(67, .lstore_n 1, 1, 1, 0, 0, .null), (68, .aload_n 0, 1, 0, 0, 0, .null), (69, .lload_n 1, 1, 1, 0, 0, .null)] = true := by decide +kernel
theorem lk_4_218 : ab_lkV "LeafCradles" 218 M_X4_mixCradles 1 [435, 437, 21, 91, 438] = true := by decide +kernel
theorem dc_X4_digest_70 : decode (AM.bytes M_X4_digest) 70 = .ok (.invokevirtual 218, 3) := by decide +kernel
theorem g_X4_digest_73_3 : ab_oks M_X4_digest [(73, .lstore_n 1, 1, 1, 0, 0, .null), (74, .aload_n 0, 1, 0, 0, 0, .null), (75, .lload_n 1, 1, 1, 0, 0, .null)] = true := by decide +kernel
theorem lk_4_221 : ab_lkV "LeafCradles" 221 M_X4_mixCarriers 1 [455, 457, 23, 91, 458] = true := by decide +kernel
theorem dc_X4_digest_76 : decode (AM.bytes M_X4_digest) 76 = .ok (.invokevirtual 221, 3) := by decide +kernel
theorem g_X4_digest_79_3 : ab_oks M_X4_digest [(79, .lstore_n 1, 1, 1, 0, 0, .null), (80, .aload_n 0, 1, 0, 0, 0, .null), (81, .lload_n 1, 1, 1, 0, 0, .null)] = true := by decide +kernel
theorem lk_4_224 : ab_lkV "LeafCradles" 224 M_X4_mixEntries 1 [463, 465, 24, 91, 466] = true := by decide +kernel
theorem dc_X4_digest_82 : decode (AM.bytes M_X4_digest) 82 = .ok (.invokevirtual 224, 3) := by decide +kernel
theorem g_X4_digest_85_4 : ab_oks M_X4_digest [(85, .lstore_n 1, 1, 1, 0, 0, .null), (86, .lload_n 1, 1, 1, 0, 0, .null), (87, .aload_n 0, 1, 0, 0, 0, .null), (88, .getfield 10, 3, 4, 0, 235, .null)] = true := by decide +kernel
theorem dc_X4_digest_91 : decode (AM.bytes M_X4_digest) 91 = .ok (.invokevirtual 191, 3) := by decide +kernel
theorem g_X4_digest_94_1 : ab_oks M_X4_digest [(94, .i2l, 1, 0, 0, 0, .null)] = true := by decide +kernel
theorem dc_X4_digest_95 : decode (AM.bytes M_X4_digest) 95 = .ok (.invokestatic 210, 3) := by decide +kernel
theorem g_X4_digest_98_6 : ab_oks M_X4_digest [(98, .lstore_n 1, 1, 1, 0, 0, .null), (99, .aload_n 0, 1, 0, 0, 0, .null), (100, .getfield 26, 3, 4, 2, 237, .null), (103, .aload_n 0, 1, 0, 0, 0, .null), (104, .getfield 10, 3, 4, 0, 235, .null), (107, .bipush 20, 2, 0, 0, 0, .int (nI (20)))] = true := by decide +kernel
theorem dc_X4_digest_109 : decode (AM.bytes M_X4_digest) 109 = .ok (.invokevirtual 197, 3) := by decide +kernel
theorem g_X4_digest_112_2 : ab_oks M_X4_digest [(112, .iconst 0, 1, 0, 0, 0, .int (nI (0))), (113, .istore_n 3, 1, 3, 0, 0, .null)] = true := by decide +kernel
theorem g_X4_digest_114_2 : ab_oks M_X4_digest [(114, .iload_n 3, 1, 3, 0, 0, .null), (115, .iconst 4, 1, 0, 0, 0, .int (nI (4)))] = true := by decide +kernel
theorem dc_X4_digest_116 : decode (AM.bytes M_X4_digest) 116 = .ok (.if_icmp .gt 23, 3) := by decide +kernel
theorem g_X4_digest_119_4 : ab_oks M_X4_digest [(119, .lload_n 1, 1, 1, 0, 0, .null), (120, .aload_n 0, 1, 0, 0, 0, .null), (121, .getfield 26, 3, 4, 2, 237, .null), (124, .iload_n 3, 1, 3, 0, 0, .null)] = true := by decide +kernel
theorem dc_X4_digest_125 : decode (AM.bytes M_X4_digest) 125 = .ok (.invokevirtual 201, 3) := by decide +kernel
theorem g_X4_digest_128_1 : ab_oks M_X4_digest [(128, .i2l, 1, 0, 0, 0, .null)] = true := by decide +kernel
theorem dc_X4_digest_129 : decode (AM.bytes M_X4_digest) 129 = .ok (.invokestatic 210, 3) := by decide +kernel
theorem g_X4_digest_132_3 : ab_oks M_X4_digest [(132, .lstore_n 1, 1, 1, 0, 0, .null), (133, .iinc 3 1, 3, 3, 0, 0, .int (nI (1))), (136, .goto (-22), 3, 114, 0, 0, .null)] = true := by decide +kernel
theorem g_X4_digest_139_3 : ab_oks M_X4_digest [(139, .lload_n 1, 1, 1, 0, 0, .null), (140, .aload_n 0, 1, 0, 0, 0, .null), (141, .getfield 10, 3, 4, 0, 235, .null)] = true := by decide +kernel
theorem dc_X4_digest_144 : decode (AM.bytes M_X4_digest) 144 = .ok (.invokevirtual 204, 3) := by decide +kernel
theorem lk_4_227 : ab_lkS "LeafCradles" 227 M_X4_bitsOfShare 1 [505, 506, 91, 507] = true := by decide +kernel
theorem dc_X4_digest_147 : decode (AM.bytes M_X4_digest) 147 = .ok (.invokestatic 227, 3) := by decide +kernel
theorem dc_X4_digest_150 : decode (AM.bytes M_X4_digest) 150 = .ok (.invokestatic 210, 3) := by decide +kernel
theorem g_X4_digest_153_3 : ab_oks M_X4_digest [(153, .lstore_n 1, 1, 1, 0, 0, .null), (154, .aload_n 0, 1, 0, 0, 0, .null), (155, .lload_n 1, 1, 1, 0, 0, .null)] = true := by decide +kernel
theorem lk_4_231 : ab_lkV "LeafCradles" 231 M_X4_mixText 1 [511, 513, 26, 91, 514] = true := by decide +kernel
theorem dc_X4_digest_156 : decode (AM.bytes M_X4_digest) 156 = .ok (.invokevirtual 231, 3) := by decide +kernel
theorem dc_X4_digest_159 : decode (AM.bytes M_X4_digest) 159 = .ok (.lreturn, 1) := by decide +kernel
set_option maxRecDepth 100000 in
set_option maxHeartbeats 4000000 in
theorem s_4digest {E : AE} (d : Nat) {nv : Nat} {nc : Nat} {nr : Nat} {ne : Nat} {q : Nat}  {o0 m0 u0 l0 : List AC} {T K : Nat → Nat → Int32} {os sc : Int32} {tc tp : Nat → Int32} {tl_ tn trd tv tdg tf tla : Int32} {pg ph pc : Nat → Int32} {pm : Int32} (hT : TI T nv nc nr ne) (hln : tl_ = nI q) (hq : q ≤ 60) : CT E M_X4_digest (d + 8) [.ref 4096] (hp o0 (ar T K os sc) (te_ tc tp tl_ tn trd tv tdg tf tla) (pl pg ph pc pm) m0 u0 l0) (.inl (some (.long (F_4digest nv nc nr ne q T sc tc pg ph pc)))) (hp o0 (ar (F_4digest_T nv nc nr ne T sc pg ph) K os sc) (te_ tc tp tl_ tn trd tv tdg tf tla) (pl (F_4digest_pg nv nc nr ne T sc pg ph) (F_4digest_ph nv nc nr ne T sc pg ph) (F_4digest_pc nv nc nr ne T sc pg ph pc) (F_4digest_pm nv nc nr ne T sc pg ph pc)) m0 u0 l0) 0 0 := by
  obtain ⟨⟨hnv, h12⟩, ⟨hnc, h4⟩, ⟨hnr, h3⟩, ⟨hne, h60⟩, hLT, hHT⟩ := id hT
  refine CT.of (L := [some (.ref 4096), none, none, none]) rfl rfl ?_
  refine AR.run g_X4_digest_0_4 6 [some (.ref 4096), some (.long (2341)), none, some (.int (nI (0)))] [] _ [] rfl trivial ?_
  refine AR.cast (L' := [some (.ref 4096), some (.long (L_4digest_6 nv nc T sc 0)), none, some (.int (nI (0)))]) (by first | rfl | (rw [L_4digest_6])) rfl rfl (AR.loopN 14 (fun j6 => [some (.ref 4096), some (.long (L_4digest_6 nv nc T sc j6)), none, some (.int (nI (j6)))]) (fun j6 => (hp o0 (ar T K os sc) (te_ tc tp tl_ tn trd tv tdg tf tla) (pl pg ph pc pm) m0 u0 l0)) (fun j6 => True) (fun j6 hj6 hI6 ih6 => ?_) (fun hI6 => ?_) 0 (by omega) (by first | trivial | omega))
  · refine AR.run g_X4_digest_6_2 9 [some (.ref 4096), some (.long (L_4digest_6 nv nc T sc j6)), none, some (.int (nI (j6)))] [.int (nI (13)), .int (nI (j6))] _ [] rfl trivial ?_
    refine AR.gt2N (tgt := 32) (a := j6) (b := 13) dc_X4_digest_9 (by decide) (by first | rfl | (simp only [nI_add, pk_mul]; first | done | rfl)) (by first | rfl | (simp only [nI_add, pk_mul]; first | done | rfl)) (by omega) (by omega) (fun c9_1 => absurd c9_1 (by omega)) (fun c9_1 => ?_)
    refine AR.run g_X4_digest_12_4 18 [some (.ref 4096), some (.long (L_4digest_6 nv nc T sc j6)), none, some (.int (nI (j6)))] [.int (nI (j6)), .ref 4097, .long (L_4digest_6 nv nc T sc j6)] _ [] rfl trivial ?_
    refine AR.callV1 (4097) [.int (nI (j6))] [.long (L_4digest_6 nv nc T sc j6)] lk_4_182 dc_X4_digest_18 rfl rfl (s_0total _ j6 (by assumption) (by omega)) (by first | rfl | (simp only [nI_add, pk_mul]; first | done | rfl)) rfl ?_
    refine AR.run g_X4_digest_21_1 22 [some (.ref 4096), some (.long (L_4digest_6 nv nc T sc j6)), none, some (.int (nI (j6)))] [.long ((F_0total j6 nv nc T sc).toInt64), .long (L_4digest_6 nv nc T sc j6)] _ [] rfl trivial ?_
    refine AR.callS1 [.long (L_4digest_6 nv nc T sc j6), .long ((F_0total j6 nv nc T sc).toInt64)] [] lk_4_210 dc_X4_digest_22 (s_4mix _ (L_4digest_6 nv nc T sc j6) ((F_0total j6 nv nc T sc).toInt64) ) (by first | rfl | (simp only [nI_add, pk_mul]; first | done | rfl)) rfl ?_
    refine AR.run g_X4_digest_25_3 6 [some (.ref 4096), some (.long (F_4mix (L_4digest_6 nv nc T sc j6) ((F_0total j6 nv nc T sc).toInt64))), none, some (.int ((nI (j6)) + (nI (1))))] [] _ [] rfl trivial ?_
    have e2 : L_4digest_6 nv nc T sc (j6 + 1) = (F_4mix (L_4digest_6 nv nc T sc j6) ((F_0total j6 nv nc T sc).toInt64)) := by rw [L_4digest_6, B_4digest_6]
    exact AR.cast (L' := [some (.ref 4096), some (.long (L_4digest_6 nv nc T sc (j6 + 1))), none, some (.int (nI (j6 + 1)))]) (by rw [e2, nI_add]) rfl rfl (ih6 (by first | trivial | omega))
  · refine AR.run g_X4_digest_6_2 9 [some (.ref 4096), some (.long (L_4digest_6 nv nc T sc 14)), none, some (.int (nI (14)))] [.int (nI (13)), .int (nI (14))] _ [] rfl trivial ?_
    refine AR.gt2N (tgt := 32) (a := 14) (b := 13) dc_X4_digest_9 (by decide) (by first | rfl | (simp only [nI_add, pk_mul]; first | done | rfl)) (by first | rfl | (simp only [nI_add, pk_mul]; first | done | rfl)) (by omega) (by omega) (fun c9_3 => ?_) (fun c9_3 => absurd c9_3 (by omega))
    refine AR.run g_X4_digest_32_2 34 [some (.ref 4096), some (.long (L_4digest_6 nv nc T sc 14)), none, some (.int (nI (0)))] [] _ [] rfl trivial ?_
    refine AR.cast (L' := [some (.ref 4096), some (.long (L_4digest_34 nv nc T sc 0)), none, some (.int (nI (0)))]) (by first | rfl | (rw [L_4digest_34])) rfl rfl (AR.loopN 4 (fun j34 => [some (.ref 4096), some (.long (L_4digest_34 nv nc T sc j34)), none, some (.int (nI (j34)))]) (fun j34 => (hp o0 (ar T K os sc) (te_ tc tp tl_ tn trd tv tdg tf tla) (pl pg ph pc pm) m0 u0 l0)) (fun j34 => True) (fun j34 hj34 hI34 ih34 => ?_) (fun hI34 => ?_) 0 (by omega) (by first | trivial | omega))
    · refine AR.run g_X4_digest_34_2 36 [some (.ref 4096), some (.long (L_4digest_34 nv nc T sc j34)), none, some (.int (nI (j34)))] [.int (nI (4)), .int (nI (j34))] _ [] rfl trivial ?_
      refine AR.ge2N (tgt := 62) (a := j34) (b := 4) dc_X4_digest_36 (by decide) (by first | rfl | (simp only [nI_add, pk_mul]; first | done | rfl)) (by first | rfl | (simp only [nI_add, pk_mul]; first | done | rfl)) (by omega) (by omega) (fun c36_4 => absurd c36_4 (by omega)) (fun c36_4 => ?_)
      refine AR.run g_X4_digest_39_6 48 [some (.ref 4096), some (.long (L_4digest_34 nv nc T sc j34)), none, some (.int (nI (j34)))] [.int ((nI (7)) + (nI (j34))), .ref 4097, .long (L_4digest_34 nv nc T sc j34)] _ [] rfl trivial ?_
      refine AR.callV1 (4097) [.int (nI ((7 + j34)))] [.long (L_4digest_34 nv nc T sc j34)] lk_4_34 dc_X4_digest_48 rfl rfl (s_0number _ (7 + j34) (by omega)) (by first | rfl | (simp only [nI_add, pk_mul]; first | done | rfl)) rfl ?_
      refine AR.run g_X4_digest_51_1 52 [some (.ref 4096), some (.long (L_4digest_34 nv nc T sc j34)), none, some (.int (nI (j34)))] [.long (((T 5) (7 + j34)).toInt64), .long (L_4digest_34 nv nc T sc j34)] _ [] rfl trivial ?_
      refine AR.callS1 [.long (L_4digest_34 nv nc T sc j34), .long (((T 5) (7 + j34)).toInt64)] [] lk_4_210 dc_X4_digest_52 (s_4mix _ (L_4digest_34 nv nc T sc j34) (((T 5) (7 + j34)).toInt64) ) (by first | rfl | (simp only [nI_add, pk_mul]; first | done | rfl)) rfl ?_
      refine AR.run g_X4_digest_55_3 34 [some (.ref 4096), some (.long (F_4mix (L_4digest_34 nv nc T sc j34) (((T 5) (7 + j34)).toInt64))), none, some (.int ((nI (j34)) + (nI (1))))] [] _ [] rfl trivial ?_
      have e5 : L_4digest_34 nv nc T sc (j34 + 1) = (F_4mix (L_4digest_34 nv nc T sc j34) (((T 5) (7 + j34)).toInt64)) := by rw [L_4digest_34, B_4digest_34]
      exact AR.cast (L' := [some (.ref 4096), some (.long (L_4digest_34 nv nc T sc (j34 + 1))), none, some (.int (nI (j34 + 1)))]) (by rw [e5, nI_add]) rfl rfl (ih34 (by first | trivial | omega))
    · refine AR.run g_X4_digest_34_2 36 [some (.ref 4096), some (.long (L_4digest_34 nv nc T sc 4)), none, some (.int (nI (4)))] [.int (nI (4)), .int (nI (4))] _ [] rfl trivial ?_
      refine AR.ge2N (tgt := 62) (a := 4) (b := 4) dc_X4_digest_36 (by decide) (by first | rfl | (simp only [nI_add, pk_mul]; first | done | rfl)) (by first | rfl | (simp only [nI_add, pk_mul]; first | done | rfl)) (by omega) (by omega) (fun c36_6 => ?_) (fun c36_6 => absurd c36_6 (by omega))
      refine AR.run g_X4_digest_62_2 64 [some (.ref 4096), some (.long (L_4digest_34 nv nc T sc 4)), none, some (.int (nI (4)))] [.long (L_4digest_34 nv nc T sc 4), .ref 4096] _ [] rfl trivial ?_
      refine AR.callV1 (4096) [.long (L_4digest_34 nv nc T sc 4)] [] lk_4_214 dc_X4_digest_64 rfl rfl (s_4mixVolumes _ (L_4digest_34 nv nc T sc 4) (by assumption)) (by first | rfl | (simp only [nI_add, pk_mul]; first | done | rfl)) rfl ?_
      refine AR.run g_X4_digest_67_3 70 [some (.ref 4096), some (.long (L_4mixVolumes_5 (L_4digest_34 nv nc T sc 4) nr ne T nv)), none, some (.int (nI (4)))] [.long (L_4mixVolumes_5 (L_4digest_34 nv nc T sc 4) nr ne T nv), .ref 4096] _ [] rfl trivial ?_
      refine AR.callV1 (4096) [.long (L_4mixVolumes_5 (L_4digest_34 nv nc T sc 4) nr ne T nv)] [] lk_4_218 dc_X4_digest_70 rfl rfl (s_4mixCradles _ (L_4mixVolumes_5 (L_4digest_34 nv nc T sc 4) nr ne T nv) (by assumption)) (by first | rfl | (simp only [nI_add, pk_mul]; first | done | rfl)) rfl ?_
      have hB1 : TI (F_4mixCradles_T (L_4mixVolumes_5 (L_4digest_34 nv nc T sc 4) nr ne T nv) nc T) nv nc nr ne := TI_mC hT h4 nc h4
      refine AR.run g_X4_digest_73_3 76 [some (.ref 4096), some (.long (F_4mixCradles (L_4mixVolumes_5 (L_4digest_34 nv nc T sc 4) nr ne T nv) nc T)), none, some (.int (nI (4)))] [.long (F_4mixCradles (L_4mixVolumes_5 (L_4digest_34 nv nc T sc 4) nr ne T nv) nc T), .ref 4096] _ [] rfl trivial ?_
      refine AR.callV1 (4096) [.long (F_4mixCradles (L_4mixVolumes_5 (L_4digest_34 nv nc T sc 4) nr ne T nv) nc T)] [] lk_4_221 dc_X4_digest_76 rfl rfl (s_4mixCarriers _ (F_4mixCradles (L_4mixVolumes_5 (L_4digest_34 nv nc T sc 4) nr ne T nv) nc T) hB1) (by first | rfl | (simp only [nI_add, pk_mul]; first | done | rfl)) rfl ?_
      refine AR.run g_X4_digest_79_3 82 [some (.ref 4096), some (.long (L_4mixCarriers_5 (F_4mixCradles (L_4mixVolumes_5 (L_4digest_34 nv nc T sc 4) nr ne T nv) nc T) (F_4mixCradles_T (L_4mixVolumes_5 (L_4digest_34 nv nc T sc 4) nr ne T nv) nc T) nr)), none, some (.int (nI (4)))] [.long (L_4mixCarriers_5 (F_4mixCradles (L_4mixVolumes_5 (L_4digest_34 nv nc T sc 4) nr ne T nv) nc T) (F_4mixCradles_T (L_4mixVolumes_5 (L_4digest_34 nv nc T sc 4) nr ne T nv) nc T) nr), .ref 4096] _ [] rfl trivial ?_
      refine AR.callV1 (4096) [.long (L_4mixCarriers_5 (F_4mixCradles (L_4mixVolumes_5 (L_4digest_34 nv nc T sc 4) nr ne T nv) nc T) (F_4mixCradles_T (L_4mixVolumes_5 (L_4digest_34 nv nc T sc 4) nr ne T nv) nc T) nr)] [] lk_4_224 dc_X4_digest_82 rfl rfl (s_4mixEntries _ (L_4mixCarriers_5 (F_4mixCradles (L_4mixVolumes_5 (L_4digest_34 nv nc T sc 4) nr ne T nv) nc T) (F_4mixCradles_T (L_4mixVolumes_5 (L_4digest_34 nv nc T sc 4) nr ne T nv) nc T) nr) hB1) (by first | rfl | (simp only [nI_add, pk_mul]; first | done | rfl)) rfl ?_
      refine AR.run g_X4_digest_85_4 91 [some (.ref 4096), some (.long (L_4mixEntries_5 (L_4mixCarriers_5 (F_4mixCradles (L_4mixVolumes_5 (L_4digest_34 nv nc T sc 4) nr ne T nv) nc T) (F_4mixCradles_T (L_4mixVolumes_5 (L_4digest_34 nv nc T sc 4) nr ne T nv) nc T) nr) (F_4mixCradles_T (L_4mixVolumes_5 (L_4digest_34 nv nc T sc 4) nr ne T nv) nc T) ne)), none, some (.int (nI (4)))] [.ref 4097, .long (L_4mixEntries_5 (L_4mixCarriers_5 (F_4mixCradles (L_4mixVolumes_5 (L_4digest_34 nv nc T sc 4) nr ne T nv) nc T) (F_4mixCradles_T (L_4mixVolumes_5 (L_4digest_34 nv nc T sc 4) nr ne T nv) nc T) nr) (F_4mixCradles_T (L_4mixVolumes_5 (L_4digest_34 nv nc T sc 4) nr ne T nv) nc T) ne)] _ [] rfl trivial ?_
      refine AR.callV1 (4097) [] [.long (L_4mixEntries_5 (L_4mixCarriers_5 (F_4mixCradles (L_4mixVolumes_5 (L_4digest_34 nv nc T sc 4) nr ne T nv) nc T) (F_4mixCradles_T (L_4mixVolumes_5 (L_4digest_34 nv nc T sc 4) nr ne T nv) nc T) nr) (F_4mixCradles_T (L_4mixVolumes_5 (L_4digest_34 nv nc T sc 4) nr ne T nv) nc T) ne)] lk_4_191 dc_X4_digest_91 rfl rfl (s_0minutesUntilDone _  hB1) (by first | rfl | (simp only [nI_add, pk_mul]; first | done | rfl)) rfl ?_
      refine AR.run g_X4_digest_94_1 95 [some (.ref 4096), some (.long (L_4mixEntries_5 (L_4mixCarriers_5 (F_4mixCradles (L_4mixVolumes_5 (L_4digest_34 nv nc T sc 4) nr ne T nv) nc T) (F_4mixCradles_T (L_4mixVolumes_5 (L_4digest_34 nv nc T sc 4) nr ne T nv) nc T) nr) (F_4mixCradles_T (L_4mixVolumes_5 (L_4digest_34 nv nc T sc 4) nr ne T nv) nc T) ne)), none, some (.int (nI (4)))] [.long ((F_0minutesUntilDone nc (F_4mixCradles_T (L_4mixVolumes_5 (L_4digest_34 nv nc T sc 4) nr ne T nv) nc T)).toInt64), .long (L_4mixEntries_5 (L_4mixCarriers_5 (F_4mixCradles (L_4mixVolumes_5 (L_4digest_34 nv nc T sc 4) nr ne T nv) nc T) (F_4mixCradles_T (L_4mixVolumes_5 (L_4digest_34 nv nc T sc 4) nr ne T nv) nc T) nr) (F_4mixCradles_T (L_4mixVolumes_5 (L_4digest_34 nv nc T sc 4) nr ne T nv) nc T) ne)] _ [] rfl trivial ?_
      have hB2 : TI (F_0minutesUntilDone_T nc (F_4mixCradles_T (L_4mixVolumes_5 (L_4digest_34 nv nc T sc 4) nr ne T nv) nc T)) nv nc nr ne := TI_mUDF hB1 h4
      refine AR.callS1 [.long (L_4mixEntries_5 (L_4mixCarriers_5 (F_4mixCradles (L_4mixVolumes_5 (L_4digest_34 nv nc T sc 4) nr ne T nv) nc T) (F_4mixCradles_T (L_4mixVolumes_5 (L_4digest_34 nv nc T sc 4) nr ne T nv) nc T) nr) (F_4mixCradles_T (L_4mixVolumes_5 (L_4digest_34 nv nc T sc 4) nr ne T nv) nc T) ne), .long ((F_0minutesUntilDone nc (F_4mixCradles_T (L_4mixVolumes_5 (L_4digest_34 nv nc T sc 4) nr ne T nv) nc T)).toInt64)] [] lk_4_210 dc_X4_digest_95 (s_4mix _ (L_4mixEntries_5 (L_4mixCarriers_5 (F_4mixCradles (L_4mixVolumes_5 (L_4digest_34 nv nc T sc 4) nr ne T nv) nc T) (F_4mixCradles_T (L_4mixVolumes_5 (L_4digest_34 nv nc T sc 4) nr ne T nv) nc T) nr) (F_4mixCradles_T (L_4mixVolumes_5 (L_4digest_34 nv nc T sc 4) nr ne T nv) nc T) ne) ((F_0minutesUntilDone nc (F_4mixCradles_T (L_4mixVolumes_5 (L_4digest_34 nv nc T sc 4) nr ne T nv) nc T)).toInt64) ) (by first | rfl | (simp only [nI_add, pk_mul]; first | done | rfl)) rfl ?_
      refine AR.run g_X4_digest_98_6 109 [some (.ref 4096), some (.long (F_4mix (L_4mixEntries_5 (L_4mixCarriers_5 (F_4mixCradles (L_4mixVolumes_5 (L_4digest_34 nv nc T sc 4) nr ne T nv) nc T) (F_4mixCradles_T (L_4mixVolumes_5 (L_4digest_34 nv nc T sc 4) nr ne T nv) nc T) nr) (F_4mixCradles_T (L_4mixVolumes_5 (L_4digest_34 nv nc T sc 4) nr ne T nv) nc T) ne) ((F_0minutesUntilDone nc (F_4mixCradles_T (L_4mixVolumes_5 (L_4digest_34 nv nc T sc 4) nr ne T nv) nc T)).toInt64))), none, some (.int (nI (4)))] [.int (nI (20)), .ref 4097, .ref 12288] _ [] rfl trivial ?_
      refine AR.callV0 (12288) [.ref 4097, .int (nI (20))] [] lk_4_197 dc_X4_digest_109 rfl rfl (s_2make _ (nI (20)) hB2) (by first | rfl | (simp only [nI_add, pk_mul]; first | done | rfl)) rfl ?_
      have hB3 : TI (F_2make_T (nI (20)) nv nc (F_0minutesUntilDone_T nc (F_4mixCradles_T (L_4mixVolumes_5 (L_4digest_34 nv nc T sc 4) nr ne T nv) nc T)) pg ph) nv nc nr ne := TI_mk2 hB2 4 (by omega)
      refine AR.run g_X4_digest_112_2 114 [some (.ref 4096), some (.long (F_4mix (L_4mixEntries_5 (L_4mixCarriers_5 (F_4mixCradles (L_4mixVolumes_5 (L_4digest_34 nv nc T sc 4) nr ne T nv) nc T) (F_4mixCradles_T (L_4mixVolumes_5 (L_4digest_34 nv nc T sc 4) nr ne T nv) nc T) nr) (F_4mixCradles_T (L_4mixVolumes_5 (L_4digest_34 nv nc T sc 4) nr ne T nv) nc T) ne) ((F_0minutesUntilDone nc (F_4mixCradles_T (L_4mixVolumes_5 (L_4digest_34 nv nc T sc 4) nr ne T nv) nc T)).toInt64))), none, some (.int (nI (0)))] [] _ [] rfl trivial ?_
      refine AR.cast (L' := [some (.ref 4096), some (.long (L_4digest_114 nv nc nr ne T sc pg ph pc 0)), none, some (.int (nI (0)))]) (by first | rfl | (rw [L_4digest_114])) rfl rfl (AR.loopN 5 (fun j114 => [some (.ref 4096), some (.long (L_4digest_114 nv nc nr ne T sc pg ph pc j114)), none, some (.int (nI (j114)))]) (fun j114 => (hp o0 (ar (F_2make_T (nI (20)) nv nc (F_0minutesUntilDone_T nc (F_4mixCradles_T (L_4mixVolumes_5 (L_4digest_34 nv nc T sc 4) nr ne T nv) nc T)) pg ph) K os sc) (te_ tc tp tl_ tn trd tv tdg tf tla) (pl (F_2make_pg (nI (20)) nv nc (F_0minutesUntilDone_T nc (F_4mixCradles_T (L_4mixVolumes_5 (L_4digest_34 nv nc T sc 4) nr ne T nv) nc T)) pg ph) (F_2make_ph (nI (20)) nv nc (F_0minutesUntilDone_T nc (F_4mixCradles_T (L_4mixVolumes_5 (L_4digest_34 nv nc T sc 4) nr ne T nv) nc T)) pg ph) (F_2make_pc (nI (20)) nv nc (F_0minutesUntilDone_T nc (F_4mixCradles_T (L_4mixVolumes_5 (L_4digest_34 nv nc T sc 4) nr ne T nv) nc T)) pg ph pc) (F_2make_pm (nI (20)) nv nc (F_0minutesUntilDone_T nc (F_4mixCradles_T (L_4mixVolumes_5 (L_4digest_34 nv nc T sc 4) nr ne T nv) nc T)) pg ph pc)) m0 u0 l0)) (fun j114 => True) (fun j114 hj114 hI114 ih114 => ?_) (fun hI114 => ?_) 0 (by omega) (by first | trivial | omega))
      · refine AR.run g_X4_digest_114_2 116 [some (.ref 4096), some (.long (L_4digest_114 nv nc nr ne T sc pg ph pc j114)), none, some (.int (nI (j114)))] [.int (nI (4)), .int (nI (j114))] _ [] rfl trivial ?_
        refine AR.gt2N (tgt := 139) (a := j114) (b := 4) dc_X4_digest_116 (by decide) (by first | rfl | (simp only [nI_add, pk_mul]; first | done | rfl)) (by first | rfl | (simp only [nI_add, pk_mul]; first | done | rfl)) (by omega) (by omega) (fun c116_7 => absurd c116_7 (by omega)) (fun c116_7 => ?_)
        refine AR.run g_X4_digest_119_4 125 [some (.ref 4096), some (.long (L_4digest_114 nv nc nr ne T sc pg ph pc j114)), none, some (.int (nI (j114)))] [.int (nI (j114)), .ref 12288, .long (L_4digest_114 nv nc nr ne T sc pg ph pc j114)] _ [] rfl trivial ?_
        refine AR.callV1 (12288) [.int (nI (j114))] [.long (L_4digest_114 nv nc nr ne T sc pg ph pc j114)] lk_4_201 dc_X4_digest_125 rfl rfl (s_2answer _ j114 (by omega)) (by first | rfl | (simp only [nI_add, pk_mul]; first | done | rfl)) rfl ?_
        refine AR.run g_X4_digest_128_1 129 [some (.ref 4096), some (.long (L_4digest_114 nv nc nr ne T sc pg ph pc j114)), none, some (.int (nI (j114)))] [.long ((F_2answer j114 (F_2make_pc (nI (20)) nv nc (F_0minutesUntilDone_T nc (F_4mixCradles_T (L_4mixVolumes_5 (L_4digest_34 nv nc T sc 4) nr ne T nv) nc T)) pg ph pc) (F_2make_pm (nI (20)) nv nc (F_0minutesUntilDone_T nc (F_4mixCradles_T (L_4mixVolumes_5 (L_4digest_34 nv nc T sc 4) nr ne T nv) nc T)) pg ph pc)).toInt64), .long (L_4digest_114 nv nc nr ne T sc pg ph pc j114)] _ [] rfl trivial ?_
        refine AR.callS1 [.long (L_4digest_114 nv nc nr ne T sc pg ph pc j114), .long ((F_2answer j114 (F_2make_pc (nI (20)) nv nc (F_0minutesUntilDone_T nc (F_4mixCradles_T (L_4mixVolumes_5 (L_4digest_34 nv nc T sc 4) nr ne T nv) nc T)) pg ph pc) (F_2make_pm (nI (20)) nv nc (F_0minutesUntilDone_T nc (F_4mixCradles_T (L_4mixVolumes_5 (L_4digest_34 nv nc T sc 4) nr ne T nv) nc T)) pg ph pc)).toInt64)] [] lk_4_210 dc_X4_digest_129 (s_4mix _ (L_4digest_114 nv nc nr ne T sc pg ph pc j114) ((F_2answer j114 (F_2make_pc (nI (20)) nv nc (F_0minutesUntilDone_T nc (F_4mixCradles_T (L_4mixVolumes_5 (L_4digest_34 nv nc T sc 4) nr ne T nv) nc T)) pg ph pc) (F_2make_pm (nI (20)) nv nc (F_0minutesUntilDone_T nc (F_4mixCradles_T (L_4mixVolumes_5 (L_4digest_34 nv nc T sc 4) nr ne T nv) nc T)) pg ph pc)).toInt64) ) (by first | rfl | (simp only [nI_add, pk_mul]; first | done | rfl)) rfl ?_
        refine AR.run g_X4_digest_132_3 114 [some (.ref 4096), some (.long (F_4mix (L_4digest_114 nv nc nr ne T sc pg ph pc j114) ((F_2answer j114 (F_2make_pc (nI (20)) nv nc (F_0minutesUntilDone_T nc (F_4mixCradles_T (L_4mixVolumes_5 (L_4digest_34 nv nc T sc 4) nr ne T nv) nc T)) pg ph pc) (F_2make_pm (nI (20)) nv nc (F_0minutesUntilDone_T nc (F_4mixCradles_T (L_4mixVolumes_5 (L_4digest_34 nv nc T sc 4) nr ne T nv) nc T)) pg ph pc)).toInt64))), none, some (.int ((nI (j114)) + (nI (1))))] [] _ [] rfl trivial ?_
        have e8 : L_4digest_114 nv nc nr ne T sc pg ph pc (j114 + 1) = (F_4mix (L_4digest_114 nv nc nr ne T sc pg ph pc j114) ((F_2answer j114 (F_2make_pc (nI (20)) nv nc (F_0minutesUntilDone_T nc (F_4mixCradles_T (L_4mixVolumes_5 (L_4digest_34 nv nc T sc 4) nr ne T nv) nc T)) pg ph pc) (F_2make_pm (nI (20)) nv nc (F_0minutesUntilDone_T nc (F_4mixCradles_T (L_4mixVolumes_5 (L_4digest_34 nv nc T sc 4) nr ne T nv) nc T)) pg ph pc)).toInt64)) := by rw [L_4digest_114, B_4digest_114]
        exact AR.cast (L' := [some (.ref 4096), some (.long (L_4digest_114 nv nc nr ne T sc pg ph pc (j114 + 1))), none, some (.int (nI (j114 + 1)))]) (by rw [e8, nI_add]) rfl rfl (ih114 (by first | trivial | omega))
      · refine AR.run g_X4_digest_114_2 116 [some (.ref 4096), some (.long (L_4digest_114 nv nc nr ne T sc pg ph pc 5)), none, some (.int (nI (5)))] [.int (nI (4)), .int (nI (5))] _ [] rfl trivial ?_
        refine AR.gt2N (tgt := 139) (a := 5) (b := 4) dc_X4_digest_116 (by decide) (by first | rfl | (simp only [nI_add, pk_mul]; first | done | rfl)) (by first | rfl | (simp only [nI_add, pk_mul]; first | done | rfl)) (by omega) (by omega) (fun c116_9 => ?_) (fun c116_9 => absurd c116_9 (by omega))
        refine AR.run g_X4_digest_139_3 144 [some (.ref 4096), some (.long (L_4digest_114 nv nc nr ne T sc pg ph pc 5)), none, some (.int (nI (5)))] [.ref 4097, .long (L_4digest_114 nv nc nr ne T sc pg ph pc 5)] _ [] rfl trivial ?_
        refine AR.callV1 (4097) [] [.long (L_4digest_114 nv nc nr ne T sc pg ph pc 5)] lk_4_204 dc_X4_digest_144 rfl rfl (s_0shareOfOpenLeaves _  hB3 (by first | assumption | exact (share_T (by assumption)).2)) (by first | rfl | (simp only [nI_add, pk_mul]; first | done | rfl)) rfl ?_
        refine AR.callS1 [.double (F_0shareOfOpenLeaves nv (F_2make_T (nI (20)) nv nc (F_0minutesUntilDone_T nc (F_4mixCradles_T (L_4mixVolumes_5 (L_4digest_34 nv nc T sc 4) nr ne T nv) nc T)) pg ph))] [.long (L_4digest_114 nv nc nr ne T sc pg ph pc 5)] lk_4_227 dc_X4_digest_147 (s_4bitsOfShare _ (F_0shareOfOpenLeaves nv (F_2make_T (nI (20)) nv nc (F_0minutesUntilDone_T nc (F_4mixCradles_T (L_4mixVolumes_5 (L_4digest_34 nv nc T sc 4) nr ne T nv) nc T)) pg ph)) (by first | assumption | exact (share_T (by assumption)).1)) (by first | rfl | (simp only [nI_add, pk_mul]; first | done | rfl)) rfl ?_
        refine AR.callS1 [.long (L_4digest_114 nv nc nr ne T sc pg ph pc 5), .long (F_4bitsOfShare (F_0shareOfOpenLeaves nv (F_2make_T (nI (20)) nv nc (F_0minutesUntilDone_T nc (F_4mixCradles_T (L_4mixVolumes_5 (L_4digest_34 nv nc T sc 4) nr ne T nv) nc T)) pg ph)))] [] lk_4_210 dc_X4_digest_150 (s_4mix _ (L_4digest_114 nv nc nr ne T sc pg ph pc 5) (F_4bitsOfShare (F_0shareOfOpenLeaves nv (F_2make_T (nI (20)) nv nc (F_0minutesUntilDone_T nc (F_4mixCradles_T (L_4mixVolumes_5 (L_4digest_34 nv nc T sc 4) nr ne T nv) nc T)) pg ph))) ) (by first | rfl | (simp only [nI_add, pk_mul]; first | done | rfl)) rfl ?_
        refine AR.run g_X4_digest_153_3 156 [some (.ref 4096), some (.long (F_4mix (L_4digest_114 nv nc nr ne T sc pg ph pc 5) (F_4bitsOfShare (F_0shareOfOpenLeaves nv (F_2make_T (nI (20)) nv nc (F_0minutesUntilDone_T nc (F_4mixCradles_T (L_4mixVolumes_5 (L_4digest_34 nv nc T sc 4) nr ne T nv) nc T)) pg ph))))), none, some (.int (nI (5)))] [.long (F_4mix (L_4digest_114 nv nc nr ne T sc pg ph pc 5) (F_4bitsOfShare (F_0shareOfOpenLeaves nv (F_2make_T (nI (20)) nv nc (F_0minutesUntilDone_T nc (F_4mixCradles_T (L_4mixVolumes_5 (L_4digest_34 nv nc T sc 4) nr ne T nv) nc T)) pg ph)))), .ref 4096] _ [] rfl trivial ?_
        refine AR.callV1 (4096) [.long (F_4mix (L_4digest_114 nv nc nr ne T sc pg ph pc 5) (F_4bitsOfShare (F_0shareOfOpenLeaves nv (F_2make_T (nI (20)) nv nc (F_0minutesUntilDone_T nc (F_4mixCradles_T (L_4mixVolumes_5 (L_4digest_34 nv nc T sc 4) nr ne T nv) nc T)) pg ph))))] [] lk_4_231 dc_X4_digest_156 rfl rfl (s_4mixText _ (F_4mix (L_4digest_114 nv nc nr ne T sc pg ph pc 5) (F_4bitsOfShare (F_0shareOfOpenLeaves nv (F_2make_T (nI (20)) nv nc (F_0minutesUntilDone_T nc (F_4mixCradles_T (L_4mixVolumes_5 (L_4digest_34 nv nc T sc 4) nr ne T nv) nc T)) pg ph)))) (by assumption) (by omega)) (by first | rfl | (simp only [nI_add, pk_mul]; first | done | rfl)) rfl ?_
        have e10_0 : F_4digest nv nc nr ne q T sc tc pg ph pc = (L_4mixText_16 (F_4mix (L_4digest_114 nv nc nr ne T sc pg ph pc 5) (F_4bitsOfShare (F_0shareOfOpenLeaves nv (F_2make_T (nI (20)) nv nc (F_0minutesUntilDone_T nc (F_4mixCradles_T (L_4mixVolumes_5 (L_4digest_34 nv nc T sc 4) nr ne T nv) nc T)) pg ph)))) q tc q) := by rw [F_4digest]
        have e10_1 : F_4digest_T nv nc nr ne T sc pg ph = (F_2make_T (nI (20)) nv nc (F_0minutesUntilDone_T nc (F_4mixCradles_T (L_4mixVolumes_5 (L_4digest_34 nv nc T sc 4) nr ne T nv) nc T)) pg ph) := by rw [F_4digest_T]
        have e10_2 : F_4digest_pg nv nc nr ne T sc pg ph = (F_2make_pg (nI (20)) nv nc (F_0minutesUntilDone_T nc (F_4mixCradles_T (L_4mixVolumes_5 (L_4digest_34 nv nc T sc 4) nr ne T nv) nc T)) pg ph) := by rw [F_4digest_pg]
        have e10_3 : F_4digest_ph nv nc nr ne T sc pg ph = (F_2make_ph (nI (20)) nv nc (F_0minutesUntilDone_T nc (F_4mixCradles_T (L_4mixVolumes_5 (L_4digest_34 nv nc T sc 4) nr ne T nv) nc T)) pg ph) := by rw [F_4digest_ph]
        have e10_4 : F_4digest_pc nv nc nr ne T sc pg ph pc = (F_2make_pc (nI (20)) nv nc (F_0minutesUntilDone_T nc (F_4mixCradles_T (L_4mixVolumes_5 (L_4digest_34 nv nc T sc 4) nr ne T nv) nc T)) pg ph pc) := by rw [F_4digest_pc]
        have e10_5 : F_4digest_pm nv nc nr ne T sc pg ph pc = (F_2make_pm (nI (20)) nv nc (F_0minutesUntilDone_T nc (F_4mixCradles_T (L_4mixVolumes_5 (L_4digest_34 nv nc T sc 4) nr ne T nv) nc T)) pg ph pc) := by rw [F_4digest_pm]
        exact AR.retL dc_X4_digest_159 rfl e10_0.symm (by rw [e10_1, e10_2, e10_3, e10_4, e10_5])
