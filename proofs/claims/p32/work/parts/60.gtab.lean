/-! THE TABLES OF GAINS -/
/-- the reference's gain -/
def Gr (m nv nc : Nat) (z : Nat → Int32) (c v : Nat) : Int32 := B_5layGains_9 m nv nc z c v (fun _ => 0) (12 * c + v)
/-- as an option -/
def toO (x : Int32) : Option Nat := if x = -1 then none else some x.toNatClampNeg
theorem toO_oI {o : Option Nat} (h : ∀ k, o = some k → k ≤ 40) : toO (oI o) = o := by
  unfold toO
  cases o with
  | none => exact if_pos rfl
  | some k =>
    have := h k rfl
    rw [if_neg (show ¬ oI (some k) = -1 from nI_m1 (by omega))]
    exact congrArg some (cl_nI (by omega))
/-- the gain, none as 0 -/
def Gn (m nv nc : Nat) (z : Nat → Int32) (c v : Nat) : Nat := (toO (Gr m nv nc z c v)).getD 0
def mxv (f : Nat → Nat) : Nat → Nat
  | 0 => 0
  | j + 1 => if mxv f j < f j then f j else mxv f j
theorem mxv_le {f : Nat → Nat} {b : Nat} (h : ∀ j, f j ≤ b) : ∀ n : Nat, mxv f n ≤ b
  | 0 => Nat.zero_le _
  | n + 1 => by
    unfold mxv
    have := mxv_le h n
    have := h n
    split <;> omega
theorem le_mxv {f : Nat → Nat} : ∀ {n j : Nat}, j < n → f j ≤ mxv f n
  | 0, j, h => by omega
  | n + 1, j, h => by
    unfold mxv
    by_cases e : j = n
    · rw [e]
      split <;> omega
    · have := le_mxv (f := f) (n := n) (j := j) (by omega)
      split <;> omega
/-- the hope of the last j cradles -/
def hpS (f : Nat → Nat → Nat) : Nat → Nat
  | 0 => 0
  | j + 1 => hpS f j + mxv (f (3 - j)) 12
section GTAB
variable {T : Nat → Nat → Int32} {z : Nat → Int32} {nv nc nr ne m : Nat}
theorem g_1 (h : RT T z nv nc) (w : WZ z nv nc nr ne) (hm : m ≤ 1000) (c v : Nat) : (∀ k, toO (Gr m nv nc z c v) = some k → k ≤ 40) ∧ F_2gainOf c v (nI m) nv nc T = nI (Gn m nv nc z c v) ∧ (∀ y, B_5layGains_9 m nv nc z c v y = upd y (12 * c + v) (Gr m nv nc z c v)) ∧ TRF T (F_2gainOf_T c v (nI m) nv nc T) ∧ Gr m nv nc z c v = oI (toO (Gr m nv nc z c v)) := by
  obtain ⟨o, h1, h2, h3, h4⟩ := e_gain (c := c) (v := v) h w hm
  have eG : Gr m nv nc z c v = oI o := by
    unfold Gr
    rw [h3, upd_eq]
  have eo : toO (Gr m nv nc z c v) = o := by rw [eG, toO_oI h1]
  refine ⟨by rw [eo]; exact h1, ?_, fun y => by rw [h3, eG], h4, by rw [eo, eG]⟩
  unfold Gn
  rw [eo]
  exact h2
theorem Gn_le (h : RT T z nv nc) (w : WZ z nv nc nr ne) (hm : m ≤ 1000) (c v : Nat) : Gn m nv nc z c v ≤ 40 := by
  have h1 := (g_1 h w hm c v).1
  unfold Gn
  cases e : toO (Gr m nv nc z c v) with
  | none => exact Nat.zero_le _
  | some k => exact h1 k e
theorem lay9 (h : RT T z nv nc) (w : WZ z nv nc nr ne) (hm : m ≤ 1000) (c : Nat) (y : Nat → Int32) : ∀ j : Nat, (∀ v, v < j → L_5layGains_9 m nv nc z c y j (12 * c + v) = Gr m nv nc z c v) ∧ ∀ i, (∀ v, v < j → i ≠ 12 * c + v) → L_5layGains_9 m nv nc z c y j i = y i
  | 0 => ⟨fun v hv => by omega, fun _ _ => rfl⟩
  | j + 1 => by
    obtain ⟨h1, h2⟩ := lay9 h w hm c y j
    have e : L_5layGains_9 m nv nc z c y (j + 1) = upd (L_5layGains_9 m nv nc z c y j) (12 * c + j) (Gr m nv nc z c j) := (g_1 h w hm c j).2.2.1 _
    rw [e]
    refine ⟨fun v hv => ?_, fun i hi => ?_⟩
    · by_cases q : v = j
      · rw [q, upd_eq]
      · rw [upd_ne (by omega), h1 v (by omega)]
    · rw [upd_ne (hi j (by omega)), h2 i fun v hv => hi v (by omega)]
theorem lay2 (h : RT T z nv nc) (w : WZ z nv nc nr ne) (hm : m ≤ 1000) (ga : Nat → Int32) : ∀ j : Nat, ∀ c v, c < j → v < 12 → L_5layGains_2 m nv nc z ga j (12 * c + v) = Gr m nv nc z c v
  | 0, c, v, hc, hv => by omega
  | j + 1, c, v, hc, hv => by
    show L_5layGains_9 m nv nc z j (L_5layGains_2 m nv nc z ga j) 12 (12 * c + v) = _
    obtain ⟨h1, h2⟩ := lay9 h w hm j (L_5layGains_2 m nv nc z ga j) 12
    by_cases q : c = j
    · rw [q, h1 v hv]
    · rw [h2 _ (by omega), lay2 h w hm ga j c v (by omega) hv]
theorem mk12 (w : WZ z nv nc nr ne) (hm : m ≤ 1000) (j2 : Nat) (Y : Nat → Nat → Int32) (h : RT Y z nv nc) (p : Nat → Int32) : ∀ j : Nat, (L_2make_12 (nI m) nv nc j2 Y p j).1 = nI (mxv (Gn m nv nc z (3 - j2)) j) ∧ TRF Y (L_2make_12 (nI m) nv nc j2 Y p j).2.1 ∧ (∀ v, v < j → (L_2make_12 (nI m) nv nc j2 Y p j).2.2 ((3 - j2) * 12 + v) = nI (Gn m nv nc z (3 - j2) v)) ∧ ∀ i, (∀ v, v < j → i ≠ (3 - j2) * 12 + v) → (L_2make_12 (nI m) nv nc j2 Y p j).2.2 i = p i
  | 0 => ⟨rfl, TRF.refl Y, fun v hv => by omega, fun _ _ => rfl⟩
  | j + 1 => by
    obtain ⟨h1, h2, h3, h4⟩ := mk12 w hm j2 Y h p j
    have hr := h2.rt h w.nv.2 w.nc.2
    obtain ⟨-, g2, -, g4, -⟩ := g_1 hr w hm (3 - j2) j
    have b1 := Gn_le h w hm (3 - j2) j
    have b2 : mxv (Gn m nv nc z (3 - j2)) j ≤ 40 := mxv_le (fun v => Gn_le h w hm (3 - j2) v) j
    have e : L_2make_12 (nI m) nv nc j2 Y p (j + 1) = (if (L_2make_12 (nI m) nv nc j2 Y p j).1 < (F_2gainOf (3 - j2) j (nI m) nv nc (L_2make_12 (nI m) nv nc j2 Y p j).2.1) then (F_2gainOf (3 - j2) j (nI m) nv nc (L_2make_12 (nI m) nv nc j2 Y p j).2.1) else (L_2make_12 (nI m) nv nc j2 Y p j).1, F_2gainOf_T (3 - j2) j (nI m) nv nc (L_2make_12 (nI m) nv nc j2 Y p j).2.1, upd (L_2make_12 (nI m) nv nc j2 Y p j).2.2 (((3 - j2) * 12) + j) (F_2gainOf (3 - j2) j (nI m) nv nc (L_2make_12 (nI m) nv nc j2 Y p j).2.1)) := rfl
    rw [e, g2, h1]
    refine ⟨?_, h2.trans g4, fun v hv => ?_, fun i hi => ?_⟩
    · show (if nI (mxv (Gn m nv nc z (3 - j2)) j) < nI (Gn m nv nc z (3 - j2) j) then nI (Gn m nv nc z (3 - j2) j) else nI (mxv (Gn m nv nc z (3 - j2)) j)) = nI (if mxv (Gn m nv nc z (3 - j2)) j < Gn m nv nc z (3 - j2) j then Gn m nv nc z (3 - j2) j else mxv (Gn m nv nc z (3 - j2)) j)
      by_cases q : mxv (Gn m nv nc z (3 - j2)) j < Gn m nv nc z (3 - j2) j
      · rw [if_pos q, if_pos ((nI_ltI (by omega) (by omega)).mpr q)]
      · rw [if_neg q, if_neg (fun p => q ((nI_ltI (by omega) (by omega)).mp p))]
    · show upd _ _ _ _ = _
      by_cases q : v = j
      · rw [q, upd_eq]
      · rw [upd_ne (by omega), h3 v (by omega)]
    · show upd _ _ _ _ = _
      rw [upd_ne (hi j (by omega)), h4 i fun v hv => hi v (by omega)]
theorem mk2 (w : WZ z nv nc nr ne) (hm : m ≤ 1000) (h : RT T z nv nc) (pg ph : Nat → Int32) (h4 : ph 4 = nI 0) : ∀ j : Nat, j ≤ 4 → TRF T (L_2make_2 (nI m) nv nc T pg ph j).1 ∧ (∀ c v, c < 4 → 4 ≤ c + j → v < 12 → (L_2make_2 (nI m) nv nc T pg ph j).2.1 (c * 12 + v) = nI (Gn m nv nc z c v)) ∧ ∀ k, k ≤ j → (L_2make_2 (nI m) nv nc T pg ph j).2.2 (4 - k) = nI (hpS (Gn m nv nc z) k)
  | 0, _ => ⟨TRF.refl T, fun c v hc hj => by omega, fun k hk => by
    rw [show k = 0 by omega]
    exact h4⟩
  | j + 1, hj => by
    obtain ⟨h1, h2, h3⟩ := mk2 w hm h pg ph h4 j (by omega)
    have hr := h1.rt h w.nv.2 w.nc.2
    obtain ⟨a1, a2, a3, a4⟩ := mk12 w hm j (L_2make_2 (nI m) nv nc T pg ph j).1 hr (L_2make_2 (nI m) nv nc T pg ph j).2.1 12
    have e : L_2make_2 (nI m) nv nc T pg ph (j + 1) = ((L_2make_12 (nI m) nv nc j (L_2make_2 (nI m) nv nc T pg ph j).1 (L_2make_2 (nI m) nv nc T pg ph j).2.1 12).2.1, (L_2make_12 (nI m) nv nc j (L_2make_2 (nI m) nv nc T pg ph j).1 (L_2make_2 (nI m) nv nc T pg ph j).2.1 12).2.2, upd (L_2make_2 (nI m) nv nc T pg ph j).2.2 (3 - j) (((L_2make_2 (nI m) nv nc T pg ph j).2.2 ((3 - j) + 1)) + ((L_2make_12 (nI m) nv nc j (L_2make_2 (nI m) nv nc T pg ph j).1 (L_2make_2 (nI m) nv nc T pg ph j).2.1 12).1))) := rfl
    rw [e]
    refine ⟨h1.trans a2, fun c v hc hcj hv => ?_, fun k hk => ?_⟩
    · by_cases q : c = 3 - j
      · rw [q]
        exact a3 v hv
      · refine (a4 _ (by omega)).trans (h2 c v hc (by omega) hv)
    · show upd _ _ _ _ = _
      by_cases q : k = j + 1
      · rw [q, show 4 - (j + 1) = 3 - j by omega, upd_eq, a1, show 3 - j + 1 = 4 - j by omega, h3 j (Nat.le_refl _), nI_add]
        rfl
      · rw [upd_ne (by omega), h3 k (by omega)]
end GTAB
