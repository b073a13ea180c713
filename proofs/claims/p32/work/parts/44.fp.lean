/-! doubles from 0 to 1, by their bits -/
theorem fp_vf {r : UInt64} (h : FP.Core.val64 r ≠ .nan) : vf_n64 r := by
  have h1 := (FP.Core.ne_nan r).mp h
  unfold vf_n64
  rw [UInt64.le_iff_toNat_le, UInt64.toNat_and]
  have e : (0x7fffffffffffffff : UInt64).toNat = 2 ^ 63 - 1 := by decide
  rw [e, Nat.and_two_pow_sub_one_eq_mod]
  exact h1
theorem fp_val {x : UInt64} {e t : Nat} (h1 : 1 ≤ e) (h2 : e ≤ 2046) (ht : t < 4503599627370496) (hx : x.toNat = e * 4503599627370496 + t) : FP.Core.val64 x = .fin false (4503599627370496 + t) (-1074 + ((e : Int) - 1)) := by
  have ha : x.toNat = FP.Core.assemble FP.Core.b64 false e t := by
    rw [hx]
    unfold FP.Core.assemble
    rw [FP.Core.tails_b64]
    simp
  unfold FP.Core.val64
  have hb : FP.Core.b64.exps = 2048 := by decide
  rw [ha, FP.Core.decode_assemble _ _ _ _ (by rw [hb]; omega) (by rw [FP.Core.tails_b64]; omega), if_neg (by rw [hb]; omega), if_neg (by omega), FP.Core.tails_b64, FP.Core.qmin_b64]
theorem fp_ne {x : UInt64} {e t : Nat} (h1 : 1 ≤ e) (h2 : e ≤ 2046) (ht : t < 4503599627370496) (hx : x.toNat = e * 4503599627370496 + t) : FP.Core.val64 x ≠ .nan := by
  rw [fp_val h1 h2 ht hx]
  exact fun h => by cases h
def fp_mk (e t : Nat) : UInt64 := UInt64.ofNat (e * 4503599627370496 + t)
theorem fp_mkN {e t : Nat} (h2 : e ≤ 2046) (ht : t < 4503599627370496) : (fp_mk e t).toNat = e * 4503599627370496 + t := by
  unfold fp_mk
  rw [UInt64.toNat_ofNat_of_lt']
  show _ < 18446744073709551616
  omega
/-- twice -/
theorem fp_dmul2 {e t : Nat} (h1 : 1 ≤ e) (h2 : e ≤ 1023) (ht : t < 4503599627370496) : FP.dmul (fp_mk e t) 4611686018427387904 = fp_mk (e + 1) t := by
  have hx := fp_mkN (e := e) (t := t) (by omega) ht
  have hy := fp_mkN (e := e + 1) (t := t) (by omega) ht
  have vx := fp_val h1 (by omega) ht hx
  have vy := fp_val (by omega) (by omega) ht hy
  have v2 : FP.Core.val64 4611686018427387904 = .fin false 4503599627370496 (-51) := by decide +kernel
  have fy := FP.Core.val64_fits (fp_mk (e + 1) t)
  rw [vy] at fy
  refine FP.Core.val64_inj ?_ ?_
  · show FP.Core.val64 (FP.Core.dmul _ _) ≠ _
    rw [FP.Core.val64_dmul, vx, v2]
    exact FP.Core.roundRatio_ne_nan _ _ _ _ _
  · show FP.Core.val64 (FP.Core.dmul _ _) = _
    rw [FP.Core.val64_dmul, vx, v2, vy]
    refine FP.Core.roundRatio_exact FP.Core.good_b64 (by decide) fy ?_
    rw [show (-1074 + ((e : Int) - 1) + -51 - (-1074 + (((e + 1 : Nat) : Int) - 1))).toNat = 0 by omega, show (-1074 + (((e + 1 : Nat) : Int) - 1) - (-1074 + ((e : Int) - 1) + -51)).toNat = 52 by omega]
    omega
theorem fp_h1 {c K N t P : Nat} (h : c * (N * (K * P)) = t * P) (hP : 0 < P) : c * K * 1 * N = t * 1 * 2 ^ 0 := by
  simp only [Nat.mul_one, Nat.pow_zero]
  refine Nat.eq_of_mul_eq_mul_right hP ?_
  rw [← h]
  ac_rfl
theorem fp_h2 {c K t P M N : Nat} (h : c * M = t * P) (hm : M * N = K * P) (hP : 0 < P) : c * K * 1 * 2 ^ 0 = t * 1 * N := by
  simp only [Nat.mul_one, Nat.pow_zero]
  refine Nat.eq_of_mul_eq_mul_right hP ?_
  calc c * K * P = c * (K * P) := Nat.mul_assoc _ _ _
    _ = c * (M * N) := by rw [hm]
    _ = c * M * N := (Nat.mul_assoc _ _ _).symm
    _ = t * P * N := by rw [h]
    _ = t * N * P := by ac_rfl
theorem fp_h3 {c b a c2 D X Y P : Nat} (h1 : X = D * Y) (ea : c * X = a * P) (eb : c2 * Y = b * P) : c * b * D * (Y * P) = a * c2 * (Y * P) := by
  calc c * b * D * (Y * P) = c * (D * Y) * (b * P) := by ac_rfl
    _ = (a * P) * (c2 * Y) := by rw [← h1, ea, eb]
    _ = a * c2 * (Y * P) := by ac_rfl
theorem fp_h4 {c b a c2 D X Y P : Nat} (h1 : Y = D * X) (ea : c * X = a * P) (eb : c2 * Y = b * P) : c * b * (Y * P) = a * c2 * D * (Y * P) := by
  calc c * b * (Y * P) = c * X * (b * P) * D := by rw [h1]; ac_rfl
    _ = (a * P) * (c2 * Y) * D := by rw [ea, eb]
    _ = a * c2 * D * (Y * P) := by ac_rfl
theorem fp_l2d_ne (a : Int64) : FP.Core.val64 (FP.Core.l2d a) ≠ .nan := by
  rw [FP.Core.val64_l2d]
  exact FP.Core.roundRatio_ne_nan _ _ _ _ _
/-- less 1, times 2 ^ 52 -/
theorem fp_frac {t : Nat} (ht : t < 4503599627370496) : FP.Core.val64 (FP.dsub (fp_mk 1023 t) FP.dconst1) ≠ .nan ∧ FP.dmul (FP.dsub (fp_mk 1023 t) FP.dconst1) 4841369599423283200 = FP.Core.l2d (Int64.ofNat t) := by
  have hx := fp_mkN (e := 1023) (t := t) (by omega) ht
  have vx := fp_val (by omega) (by omega) ht hx
  have v1 : FP.Core.val64 FP.dconst1 = .fin false 4503599627370496 (-52) := by decide +kernel
  have v3 : FP.Core.val64 4841369599423283200 = .fin false 4503599627370496 0 := by decide +kernel
  have es : FP.Core.exactSum (FP.Core.val64 (fp_mk 1023 t)) (FP.Core.negate (FP.Core.val64 FP.dconst1)) = .fin false t (-52) := by
    rw [vx, v1]
    have e0 : (-1074 + (((1023 : Nat) : Int) - 1)) = -52 := by decide
    rw [e0]
    have e1 : FP.Core.sumUnits false (4503599627370496 + t) (-52) true 4503599627370496 (-52) (min (-52) (-52)) = (t : Int) := by
      show ((4503599627370496 + t) * 2 ^ (0 : Nat) : Nat) + -((4503599627370496 * 2 ^ (0 : Nat) : Nat) : Int) = (t : Int)
      omega
    show FP.Core.Datum.fin (FP.Core.sumSign false true (FP.Core.sumUnits false (4503599627370496 + t) (-52) true 4503599627370496 (-52) (min (-52) (-52)))) (FP.Core.sumUnits false (4503599627370496 + t) (-52) true 4503599627370496 (-52) (min (-52) (-52))).natAbs (min (-52) (-52)) = _
    rw [e1]
    have e2 : FP.Core.sumSign false true (t : Int) = false := by
      unfold FP.Core.sumSign
      split
      · rfl
      · exact decide_eq_false (by omega)
    rw [e2]
    rfl
  obtain ⟨c', q', hr, hu⟩ := FP.Core.round_exact FP.Core.good_b64 false (c := t) (q := -52) (show t < 9007199254740992 by omega) (by decide) (by decide)
  have vs : FP.Core.val64 (FP.dsub (fp_mk 1023 t) FP.dconst1) = .fin false c' q' := by
    show FP.Core.val64 (FP.Core.dsub _ _) = _
    rw [FP.Core.val64_dsub, es, hr]
  have fs := FP.Core.val64_fits (FP.dsub (fp_mk 1023 t) FP.dconst1)
  rw [vs] at fs
  have hq : -1074 ≤ q' := fs.2.1
  have hn : FP.Core.val64 (FP.dsub (fp_mk 1023 t) FP.dconst1) ≠ .nan := by rw [vs]; exact fun h => by cases h
  refine ⟨hn, ?_⟩
  have hi : (Int64.ofNat t).toInt = (t : Int) := Int64.toInt_ofNat_of_lt (by show t < 2 ^ 63; omega)
  have key : FP.Core.val64 (FP.dmul (FP.dsub (fp_mk 1023 t) FP.dconst1) 4841369599423283200) = FP.Core.val64 (FP.Core.l2d (Int64.ofNat t)) := by
    show FP.Core.val64 (FP.Core.dmul _ _) = _
    rw [FP.Core.val64_dmul, vs, v3, FP.Core.val64_l2d, hi]
    have e3 : decide ((t : Int) < 0) = false := decide_eq_false (by omega)
    show FP.Core.roundRatio FP.Core.b64 false (c' * 4503599627370496) 1 (q' + 0) = FP.Core.roundRatio FP.Core.b64 (decide ((t : Int) < 0)) (Int.natAbs (t : Int)) 1 0
    rw [e3, Int.natAbs_natCast]
    refine FP.Core.roundRatio_congr (by decide) (by decide) ?_
    have hu' : c' * 2 ^ (q' + 1074).toNat = t * 2 ^ 1022 := by
      have := hu
      unfold FP.Core.inUnits at this
      rw [FP.Core.qmin_b64] at this
      have e4 : (-52 - -1074 : Int).toNat = 1022 := by decide
      have e5 : (q' - -1074).toNat = (q' + 1074).toNat := by congr 1
      rw [e4, e5] at this
      exact this
    by_cases h0 : 0 ≤ q'
    · obtain ⟨n, rfl⟩ : ∃ n : Nat, q' = n := ⟨q'.toNat, by omega⟩
      rw [show ((n : Int) + 1074).toNat = n + 1074 by omega, Nat.pow_add] at hu'
      rw [show ((n : Int) + 0 - 0).toNat = n by omega, show ((0 : Int) - (n + 0)).toNat = 0 by omega]
      rw [show (2 : Nat) ^ 1074 = 4503599627370496 * 2 ^ 1022 by decide +kernel] at hu'
      exact fp_h1 hu' (Nat.two_pow_pos 1022)
    · obtain ⟨n, hn1, hn2⟩ : ∃ n : Nat, q' = -(n : Int) ∧ n ≤ 1074 := ⟨(-q').toNat, by omega, by omega⟩
      subst hn1
      rw [show (-(n : Int) + 1074).toNat = 1074 - n by omega] at hu'
      rw [show (-(n : Int) + 0 - 0).toNat = 0 by omega, show ((0 : Int) - (-(n : Int) + 0)).toNat = n by omega]
      refine fp_h2 hu' ?_ (Nat.two_pow_pos 1022)
      rw [← Nat.pow_add, show 1074 - n + n = 1074 by omega]
      decide +kernel
  exact FP.Core.val64_inj (by rw [key]; exact fp_l2d_ne _) key
theorem fp_d2l {t : Nat} (ht : t < 4503599627370496) : FP.d2l (FP.Core.l2d (Int64.ofNat t)) = Int64.ofNat t := by
  have hi : (Int64.ofNat t).toInt = (t : Int) := Int64.toInt_ofNat_of_lt (by show t < 2 ^ 63; omega)
  refine FP.Core.d2l_l2d_small ?_
  unfold FP.Core.Small53
  rw [hi]
  omega
/-- an order of doubles is that of their bits -/
theorem fp_lt1 {e t : Nat} (h1 : 1 ≤ e) (h2 : e ≤ 2046) (ht : t < 4503599627370496) : (0 ≤ Op.cmpValue (FP.dcmp (fp_mk e t) FP.dconst1) .g) ↔ 1023 ≤ e := by
  have hx := fp_mkN (e := e) (t := t) h2 ht
  have nx := fp_ne h1 h2 ht hx
  have n1 : FP.Core.val64 FP.dconst1 ≠ .nan := by decide +kernel
  have k1 : FP.Core.dkey FP.dconst1 = ((1023 * 4503599627370496 : Nat) : Int) := by decide +kernel
  have kx : FP.Core.dkey (fp_mk e t) = ((e * 4503599627370496 + t : Nat) : Int) := by
    unfold FP.Core.dkey
    rw [if_neg (by rw [hx]; omega), hx]
  have hl := FP.Core.dcmp_lt_key nx n1
  have he := FP.Core.dcmp_eq_key nx n1
  have hg := FP.Core.dcmp_gt_key nx n1
  rw [k1, kx] at hl he hg
  by_cases h : 1023 ≤ e
  · refine ⟨fun _ => h, fun _ => ?_⟩
    rcases Nat.lt_trichotomy (e * 4503599627370496 + t) (1023 * 4503599627370496) with q | q | q
    · omega
    · have := he.mpr (by omega)
      rw [show FP.dcmp (fp_mk e t) FP.dconst1 = some .eq from this]
      decide
    · have := hg.mpr (by omega)
      rw [show FP.dcmp (fp_mk e t) FP.dconst1 = some .gt from this]
      decide
  · refine ⟨fun q => ?_, fun q => absurd q h⟩
    have := hl.mpr (by omega)
    rw [show FP.dcmp (fp_mk e t) FP.dconst1 = some .lt from this] at q
    exact absurd q (by decide)
theorem fp_gt0 {e t : Nat} (h1 : 1 ≤ e) (h2 : e ≤ 2046) (ht : t < 4503599627370496) : 0 < Op.cmpValue (FP.dcmp (fp_mk e t) FP.dconst0) .g := by
  have hx := fp_mkN (e := e) (t := t) h2 ht
  have nx := fp_ne h1 h2 ht hx
  have n1 : FP.Core.val64 FP.dconst0 ≠ .nan := by decide +kernel
  have k1 : FP.Core.dkey FP.dconst0 = 0 := by decide +kernel
  have kx : FP.Core.dkey (fp_mk e t) = ((e * 4503599627370496 + t : Nat) : Int) := by
    unfold FP.Core.dkey
    rw [if_neg (by rw [hx]; omega), hx]
  have hg := (FP.Core.dcmp_gt_key nx n1).mpr (by rw [k1, kx]; omega)
  rw [show FP.dcmp (fp_mk e t) FP.dconst0 = some .gt from hg]
  decide
/-- a quotient of whole numbers from 1 to 480, the upper one not the greater -/
theorem fp_quot {a b : Nat} (ha : 1 ≤ a) (hab : a ≤ b) (hb : b ≤ 480) : ∃ e t : Nat, 1014 ≤ e ∧ e ≤ 1023 ∧ t < 4503599627370496 ∧ FP.ddiv (FP.i2d (nI a)) (FP.i2d (nI b)) = fp_mk e t := by
  have iv : ∀ n : Nat, 1 ≤ n → n ≤ 480 → ∃ c q, FP.Core.val64 (FP.i2d (nI n)) = .fin false c q ∧ 0 < c ∧ -1074 ≤ q ∧ c * 2 ^ (q + 1074).toNat = n * 2 ^ 1074 := by
    intro n h1 h2
    have hi : (nI n).toInt = (n : Int) := nI_toInt (by omega)
    obtain ⟨c, q, hr, hu⟩ := FP.Core.round_exact FP.Core.good_b64 false (c := n) (q := 0) (show n < 9007199254740992 by omega) (by decide) (by decide)
    have hv : FP.Core.val64 (FP.i2d (nI n)) = .fin false c q := by
      show FP.Core.val64 (FP.Core.i2d _) = _
      rw [FP.Core.val64_i2d, hi]
      unfold FP.Core.ofInt
      rw [decide_eq_false (by omega : ¬ (n : Int) < 0), Int.natAbs_natCast, hr]
    have hf := FP.Core.val64_fits (FP.i2d (nI n))
    rw [hv] at hf
    have hq : -1074 ≤ q := hf.2.1
    have hu' : c * 2 ^ (q + 1074).toNat = n * 2 ^ 1074 := by
      have := hu
      unfold FP.Core.inUnits at this
      rw [FP.Core.qmin_b64] at this
      have e4 : (0 - -1074 : Int).toNat = 1074 := by decide
      have e5 : (q - -1074).toNat = (q + 1074).toNat := by congr 1
      rw [e4, e5] at this
      exact this
    refine ⟨c, q, hv, ?_, hq, hu'⟩
    rcases Nat.eq_zero_or_pos c with h0 | h0
    · rw [h0, Nat.zero_mul] at hu'
      have := Nat.mul_pos h1 (Nat.two_pow_pos 1074)
      omega
    · exact h0
  obtain ⟨c, q, va, hc, hq, ea⟩ := iv a ha (by omega)
  obtain ⟨c2, q2, vb, hc2, hq2, eb⟩ := iv b (by omega) hb
  have hx : FP.Core.val64 (FP.ddiv (FP.i2d (nI a)) (FP.i2d (nI b))) = FP.Core.roundRatio FP.Core.b64 false a b 0 := by
    show FP.Core.val64 (FP.Core.ddiv _ _) = _
    rw [FP.Core.val64_ddiv, va, vb]
    show (if c2 = 0 then _ else FP.Core.roundRatio FP.Core.b64 (false != false) c c2 (q - q2)) = _
    rw [if_neg (by omega)]
    refine FP.Core.roundRatio_congr hc2 (by omega) ?_
    obtain ⟨n, hn⟩ : ∃ n : Nat, (q + 1074).toNat = n := ⟨_, rfl⟩
    obtain ⟨n2, hn2⟩ : ∃ n2 : Nat, (q2 + 1074).toNat = n2 := ⟨_, rfl⟩
    rw [hn] at ea
    rw [hn2] at eb
    rw [show (q - q2 - 0).toNat = n - n2 by omega, show (0 - (q - q2)).toNat = n2 - n by omega]
    have hp : 0 < 2 ^ n2 * 2 ^ 1074 := Nat.mul_pos (Nat.two_pow_pos _) (Nat.two_pow_pos _)
    refine Nat.eq_of_mul_eq_mul_right hp ?_
    by_cases hle : n2 ≤ n
    · rw [show n2 - n = 0 by omega, Nat.pow_zero, Nat.mul_one]
      have h1 : 2 ^ n = 2 ^ (n - n2) * 2 ^ n2 := by rw [← Nat.pow_add]; congr 1; omega
      exact fp_h3 h1 ea eb
    · rw [show n - n2 = 0 by omega, Nat.pow_zero, Nat.mul_one]
      have h1 : 2 ^ n2 = 2 ^ (n2 - n) * 2 ^ n := by rw [← Nat.pow_add]; congr 1; omega
      exact fp_h4 h1 ea eb
  generalize FP.ddiv (FP.i2d (nI a)) (FP.i2d (nI b)) = x at hx ⊢
  have nx : FP.Core.val64 x ≠ .nan := by rw [hx]; exact FP.Core.roundRatio_ne_nan _ _ _ _ _
  have hs := FP.Core.sgn_bits nx
  rw [hx, FP.Core.sgn_roundRatio] at hs
  have hs2 : ¬ 2 ^ 63 ≤ x.toNat := of_decide_eq_false hs.symm
  have hm : FP.Core.mag FP.Core.b64 x.toNat = x.toNat := by rw [FP.Core.mag_toNat64]; exact Nat.mod_eq_of_lt (by omega)
  have u1 : FP.Core.unitsOf FP.Core.b64 (1023 * 4503599627370496) = 2 ^ 1074 := by decide +kernel
  have u2 : FP.Core.unitsOf FP.Core.b64 (1014 * 4503599627370496) = 2 ^ 1065 := by decide +kernel
  have hi : FP.Core.inUnits a 0 FP.Core.b64.qmin = a * 2 ^ 1074 := by
    unfold FP.Core.inUnits
    rw [FP.Core.qmin_b64]
    rfl
  have z0 : (FP.Core.b64.qmin - FP.Core.b64.qmin).toNat = 0 := by rw [Int.sub_self]; rfl
  have q0 : FP.Core.b64.qmin ≤ 0 := by decide
  have l1 := FP.Core.mag_le FP.Core.good_b64 (m := 1023 * 4503599627370496) (n := x.toNat) hx (by omega) (Int.le_refl _) q0 (by
    rw [hi, u1, z0, Nat.pow_zero, Nat.mul_one, Nat.mul_comm]
    exact Nat.mul_le_mul_left _ hab)
  have l2 := FP.Core.mag_ge FP.Core.good_b64 (m := 1014 * 4503599627370496) (n := x.toNat) hx (by omega) (Int.le_refl _) q0 (by decide) (by
    rw [hi, u2, z0, Nat.pow_zero, Nat.mul_one, show (2 : Nat) ^ 1074 = 512 * 2 ^ 1065 by decide +kernel, ← Nat.mul_assoc, Nat.mul_comm]
    exact Nat.mul_le_mul_right _ (by omega))
  rw [hm] at l1 l2
  refine ⟨x.toNat / 4503599627370496, x.toNat % 4503599627370496, by omega, by omega, by omega, ?_⟩
  refine UInt64.toNat.inj ?_
  rw [fp_mkN (by omega) (by omega)]
  omega
theorem fp_quot0 {b : Nat} (hb : 1 ≤ b) (hb2 : b ≤ 480) : FP.ddiv (FP.i2d (nI 0)) (FP.i2d (nI b)) = FP.dconst0 := by
  have hi : (nI b).toInt = (b : Int) := nI_toInt (by omega)
  obtain ⟨c, q, hr, hu⟩ := FP.Core.round_exact FP.Core.good_b64 false (c := b) (q := 0) (show b < 9007199254740992 by omega) (by decide) (by decide)
  have hv : FP.Core.val64 (FP.i2d (nI b)) = .fin false c q := by
    show FP.Core.val64 (FP.Core.i2d _) = _
    rw [FP.Core.val64_i2d, hi]
    unfold FP.Core.ofInt
    rw [decide_eq_false (by omega : ¬ (b : Int) < 0), Int.natAbs_natCast, hr]
  have hc : ¬ c = 0 := by
    intro h0
    unfold FP.Core.inUnits at hu
    rw [h0, Nat.zero_mul] at hu
    have := Nat.mul_pos hb (Nat.two_pow_pos (0 - FP.Core.b64.qmin).toNat)
    omega
  have v0 : FP.Core.val64 (FP.i2d (nI 0)) = .fin false 0 FP.Core.b64.qmin := by decide +kernel
  have key : FP.Core.val64 (FP.ddiv (FP.i2d (nI 0)) (FP.i2d (nI b))) = FP.Core.val64 FP.dconst0 := by
    show FP.Core.val64 (FP.Core.ddiv _ _) = FP.Core.val64 FP.Core.dconst0
    rw [FP.Core.val64_ddiv, v0, hv, FP.Core.val64_dconst0]
    show (if c = 0 then _ else FP.Core.roundRatio FP.Core.b64 (false != false) 0 c (FP.Core.b64.qmin - q)) = _
    rw [if_neg hc]
    rfl
  refine FP.Core.val64_inj ?_ key
  rw [key]
  decide +kernel
/-- a share: 0, or a double from 2 ^ -9 to 1 -/
def SHd (x : UInt64) : Prop := x = FP.dconst0 ∨ ∃ e t : Nat, 1014 ≤ e ∧ e ≤ 1023 ∧ t < 4503599627370496 ∧ x = fp_mk e t
theorem SHd_quot {a b : Nat} (hab : a ≤ b) (hb1 : 1 ≤ b) (hb : b ≤ 480) : SHd (FP.ddiv (FP.i2d (nI a)) (FP.i2d (nI b))) := by
  rcases Nat.eq_zero_or_pos a with rfl | h
  · exact Or.inl (fp_quot0 hb1 hb)
  · exact Or.inr (fp_quot h hab hb)
theorem SHd_ne {x : UInt64} (h : SHd x) : FP.Core.val64 x ≠ .nan := by
  rcases h with rfl | ⟨e, t, h1, h2, h3, rfl⟩
  · decide +kernel
  · exact fp_ne (by omega) (by omega) h3 (fp_mkN (by omega) h3)
theorem SHd_vf {x : UInt64} (h : SHd x) : vf_n64 x := fp_vf (SHd_ne h)
theorem SHd_self {x : UInt64} (h : SHd x) : Op.cmpValue (FP.dcmp x x) .l = 0 := by
  rw [show FP.dcmp x x = some .eq from FP.Core.dcmp_self (SHd_ne h)]
  rfl
