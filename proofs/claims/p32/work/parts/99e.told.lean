/-! WHAT THE LAW SEES of the class -/
/-- all of the law's arrays hold the cells -/
def LZ (V S N B R A O st C z : Nat → Int32) (nv nc nr ne : Nat) : Prop :=
  LC V S N R st z nv nc ∧ (∀ k, k < 7 → C k = z k) ∧ (∀ v k, v < 4 → k < 8 → B (8 * v + k) = z (423 + 3 * (40 * v + k) + 2)) ∧
  (∀ r w, r < 2 → w < 4 → A (4 * r + w) = z (111 + 4 * r + w)) ∧ (∀ e w, e < 12 → w < 5 → O (5 * e + w) = z (123 + 5 * e + w)) ∧ nr ≤ 2 ∧ ne ≤ 12 ∧ ∀ v, v < nv → 1 ≤ lv z v
theorem dm_tab : ∀ a : Fin 33, FP.dmul FP.dconst1 (FP.i2d (nI a.val)) = FP.i2d (nI a.val) := by decide +kernel
theorem dm_1 {a : Nat} (h : a ≤ 32) : FP.dmul FP.dconst1 (FP.i2d (nI a)) = FP.i2d (nI a) := dm_tab ⟨a, by omega⟩
theorem vf_tab : ∀ a : Fin 33, vf_n64 (FP.i2d (nI a.val)) := by unfold vf_n64; decide +kernel
theorem i2d_vf {a : Nat} (h : a ≤ 32) : vf_n64 (FP.i2d (nI a)) := vf_tab ⟨a, by omega⟩
section TOLD
variable {V S N B R A O st C z : Nat → Int32} {T : Nat → Nat → Int32} {nv nc nr ne : Nat}
theorem WZ.pu (w : WZ z nv nc nr ne) : PU z nv := w.uni
theorem LZ.cc (h : LZ V S N B R A O st C z nv nc nr ne) : ∀ k, k < 7 → C k = z k := h.2.1
theorem LZ.lb (h : LZ V S N B R A O st C z nv nc nr ne) : ∀ v k, v < 4 → k < 8 → B (8 * v + k) = z (423 + 3 * (40 * v + k) + 2) := h.2.2.1
theorem LZ.ca (h : LZ V S N B R A O st C z nv nc nr ne) : ∀ r w, r < 2 → w < 4 → A (4 * r + w) = z (111 + 4 * r + w) := h.2.2.2.1
theorem LZ.lo (h : LZ V S N B R A O st C z nv nc nr ne) : ∀ e w, e < 12 → w < 5 → O (5 * e + w) = z (123 + 5 * e + w) := h.2.2.2.2.1
theorem LZ.r2 (h : LZ V S N B R A O st C z nv nc nr ne) : nr ≤ 2 := h.2.2.2.2.2.1
theorem LZ.e12 (h : LZ V S N B R A O st C z nv nc nr ne) : ne ≤ 12 := h.2.2.2.2.2.2.1
theorem LZ.l1 (h : LZ V S N B R A O st C z nv nc nr ne) : ∀ v, v < nv → 1 ≤ lv z v := h.2.2.2.2.2.2.2
theorem lt_lL (h : RT T z nv nc) (w : WZ z nv nc nr ne) (q : LC V S N R st z nv nc) {v : Nat} (hv : v < nv) : lt T v = lL V v := by
  have := q.n4
  rw [lt_eq h (by omega), lL_eq q (by omega)]
theorem t_leaf (h : RT T z nv nc) (q : LZ V S N B R A O st C z nv nc nr ne) {v k : Nat} (hv : v < nv) (hk : k < lL V v) : F_0leafFact v k 0 T = S (8 * v + k) ∧ F_0leafFact v k 1 T = N (8 * v + k) ∧ F_0leafFact v k 2 T = B (8 * v + k) ∧ (S (8 * v + k) = nI 1 → ¬ C 4 < B (8 * v + k) → F_0leafFact v k 3 T = nI 1) ∧ (S (8 * v + k) = nI 1 → C 4 < B (8 * v + k) → F_0leafFact v k 3 T = nI 0) ∧ (¬ S (8 * v + k) = nI 1 → F_0leafFact v k 3 T = nI 0) := by
  have h4 := q.1.n4
  have h8 := q.1.l8 v hv
  rw [lL_eq q.1 (by omega)] at hk
  have e : ∀ w, w < 4 → F_0leafFact v k w T = F_5leafNow v k w z := fun w hw => e_leaf h (by omega) (by omega) hw
  rw [e 0 (by omega), e 1 (by omega), e 2 (by omega), e 3 (by omega), q.1.lf v k (by omega) (by omega), q.1.ln v k (by omega) (by omega), q.lb v k (by omega) (by omega), q.cc 4 (by omega)]
  unfold F_5leafNow F_5isOpen
  refine ⟨rfl, rfl, rfl, fun a b => ?_, fun a b => ?_, fun a => ?_⟩
  · rw [if_pos (by omega), if_pos a, if_neg b, if_neg (by decide)]
  · rw [if_pos (by omega), if_pos a, if_pos b, if_pos (by decide)]
  · rw [if_pos (by omega), if_neg a, if_pos (by decide)]
theorem t_vol (h : RT T z nv nc) (w : WZ z nv nc nr ne) (q : LC V S N R st z nv nc) {v i : Nat} (hv : v < nv) (hi : i < 7) : F_0volumeFact v i T = V (7 * v + i) := by
  have h4 := q.n4
  rw [e_volume h w hv (by omega)]
  unfold F_5volumeNow
  by_cases h5 : i = 5
  · subst h5
    rw [if_pos rfl]; exact (q.pl v hv).symm
  · rw [if_neg h5, q.vol v i (by omega) hi h5]
    by_cases h6 : i = 6
    · subst h6; rw [if_pos rfl]
    · rw [if_neg h6, if_neg (by omega), if_neg (by omega), if_neg (by omega), if_neg (by omega), if_neg (by omega)]
theorem t_61 (q : LZ V S N B R A O st C z nv nc nr ne) {v : Nat} (hv : v < 4) : ∀ j : Nat, j ≤ 8 → L_Lvolumes_61 S N B C v j = (L_5leavesWith_5 v (nI 1) z j, L_5leavesWith_5 v (nI 2) z j, L_5open_4 v z j, L_5scanned_4 v z j)
  | 0, _ => rfl
  | j + 1, hj => by
    have ih := t_61 q hv j (by omega)
    show B_Lvolumes_61 S N B C v j (L_Lvolumes_61 S N B C v j).1 (L_Lvolumes_61 S N B C v j).2.1 (L_Lvolumes_61 S N B C v j).2.2.1 (L_Lvolumes_61 S N B C v j).2.2.2 = (B_5leavesWith_5 v (nI 1) z j _, B_5leavesWith_5 v (nI 2) z j _, B_5open_4 v z j _, B_5scanned_4 v z j _)
    rw [ih]
    unfold B_Lvolumes_61 B_5leavesWith_5 B_5open_4 B_5scanned_4 F_5isOpen
    rw [q.1.lf v j hv (by omega), q.1.ln v j hv (by omega), q.lb v j hv (by omega), q.cc 4 (by omega)]
    dsimp only
    by_cases a : z (423 + 3 * (40 * v + j) + 0) = nI 1
    · have b : ¬ z (423 + 3 * (40 * v + j) + 0) = nI 2 := by rw [a]; decide
      rw [if_pos a, if_pos a, if_neg b, if_pos a]
      by_cases c : z 4 < z (423 + 3 * (40 * v + j) + 2)
      · rw [if_pos c, if_pos c, if_pos (by decide)]
      · rw [if_neg c, if_neg c, if_neg (by decide)]
    · rw [if_neg a, if_neg a, if_neg a]
      by_cases b : z (423 + 3 * (40 * v + j) + 0) = nI 2
      · rw [if_pos b, if_pos b, if_pos (show nI 0 = (0 : Int32) from rfl)]
      · rw [if_neg b, if_neg b, if_pos (show nI 0 = (0 : Int32) from rfl)]
theorem t_sum (w : WZ z nv nc nr ne) (q : LZ V S N B R A O st C z nv nc nr ne) : ∀ j : Nat, j ≤ nv → L_Lvolumes_30 V S N B C j = (L_5overAll_4 2 z j, L_5overAll_4 7 z j, L_5overAll_4 8 z j, L_5overAll_4 9 z j, L_5overAll_4 11 z j)
  | 0, _ => rfl
  | j + 1, hj => by
    have ih := t_sum w q j (by omega)
    have h4 := q.1.n4
    have h8 := q.1.l8 j (by omega)
    have e2 : F_5volumeNow j 2 z = nI (lv z j) := by
      unfold F_5volumeNow
      rw [if_neg (by decide), if_neg (by decide), if_neg (by decide), if_neg (by decide), if_neg (by decide), if_neg (by decide), if_neg (by decide)]
      exact (w.lv j (by omega)).1
    show B_Lvolumes_30 V S N B C j (L_Lvolumes_30 V S N B C j).1 (L_Lvolumes_30 V S N B C j).2.1 (L_Lvolumes_30 V S N B C j).2.2.1 (L_Lvolumes_30 V S N B C j).2.2.2.1 (L_Lvolumes_30 V S N B C j).2.2.2.2 = (L_5overAll_4 2 z j + F_5volumeNow j 2 z, L_5overAll_4 7 z j + F_5volumeNow j 7 z, L_5overAll_4 8 z j + F_5volumeNow j 8 z, L_5overAll_4 9 z j + F_5volumeNow j 9 z, L_5overAll_4 11 z j + F_5volumeNow j 11 z)
    rw [ih, e2]
    unfold B_Lvolumes_30
    rw [lL_eq q.1 (by omega), t_61 q (by omega) _ h8]
    rfl
theorem t_where (q : LZ V S N B R A O st C z nv nc nr ne) (x t v : Nat) : ∀ j : Nat, j ≤ 12 → L_5whereNow_5 (nI v) (nI (x / 2 % (t + 1))) z j = L_Lvolumes_405 x t O v j
  | 0, _ => rfl
  | j + 1, hj => by
    have ih := t_where q x t v j (by omega)
    show B_5whereNow_5 (nI v) (nI (x / 2 % (t + 1))) z j (L_5whereNow_5 (nI v) (nI (x / 2 % (t + 1))) z j) = B_Lvolumes_405 x t O v j (L_Lvolumes_405 x t O v j)
    rw [ih]
    unfold B_5whereNow_5 B_Lvolumes_405
    rw [show O (5 * j) = z (123 + 5 * j) from q.lo j 0 (by omega) (by omega), q.lo j 2 (by omega) (by omega), q.lo j 3 (by omega) (by omega)]
    by_cases a : nI (x / 2 % (t + 1)) < z (123 + 5 * j)
    · rw [if_pos a]
      by_cases b : z (123 + 5 * j + 2) = nI v
      · rw [if_pos b, if_pos a]
      · rw [if_neg b]
    · rw [if_neg a]
      by_cases b : z (123 + 5 * j + 2) = nI v
      · rw [if_pos b, if_pos b, if_neg a]
      · rw [if_neg b, if_neg b]
theorem t_free (q : LC V S N R st z nv nc) (w : WZ z nv nc nr ne) : ∀ j : Nat, j ≤ nc → L_5free_4 nv z j = L_Ltold_26 nv V j
  | 0, _ => rfl
  | j + 1, hj => by
    have ih := t_free q w j (by omega)
    have h12 := w.nv.2
    have h2 := q.n2
    show B_5free_4 nv z j (L_5free_4 nv z j) = B_Ltold_26 nv V j (L_Ltold_26 nv V j)
    rw [ih]
    unfold B_5free_4 B_Ltold_26
    rw [on_eq q w.pu (by omega)]
    by_cases a : vo z (nI j) nv = none
    · rw [a, if_pos (show oI none = -1 from rfl), if_neg (show ¬ 0 ≤ oI none from by decide)]
    · rw [if_neg (fun e => a ((vo_m1 h12).mp e)), if_pos ((oI_0 (fun q hq => by have := vo_lt hq; omega)).mpr a)]
/-- the share: what the class tells and what the law computes -/
theorem t_share (h : RT T z nv nc) (w : WZ z nv nc nr ne) (q : LZ V S N B R A O st C z nv nc nr ne) :
    vf_n64 (FP.dmul FP.dconst1 (FP.i2d ((L_Lvolumes_30 V S N B C nv).2.2.2.1))) ∧ (¬ (L_Lvolumes_30 V S N B C nv).1 = 0 → vf_n64 (FP.ddiv (FP.dmul FP.dconst1 (FP.i2d ((L_Lvolumes_30 V S N B C nv).2.2.2.1))) (FP.i2d ((L_Lvolumes_30 V S N B C nv).1)))) ∧
    ((L_Lvolumes_30 V S N B C nv).1 = 0 → Op.cmpValue (FP.dcmp (F_0shareOfOpenLeaves nv T) FP.dconst0) .l = 0) ∧ (¬ (L_Lvolumes_30 V S N B C nv).1 = 0 → Op.cmpValue (FP.dcmp (F_0shareOfOpenLeaves nv T) (FP.ddiv (FP.dmul FP.dconst1 (FP.i2d ((L_Lvolumes_30 V S N B C nv).2.2.2.1))) (FP.i2d ((L_Lvolumes_30 V S N B C nv).1)))) .l = 0) := by
  have hT := TI_RT h w
  have h4 := q.1.n4
  obtain ⟨a, b, h1, h2, h3, h5⟩ := sums_T hT nv (Nat.le_refl _)
  have e9 : L_5overAll_4 9 z nv = nI a := by rw [← e_sum h w (by omega) nv (Nat.le_refl _), h3]
  have e2 : L_5overAll_4 2 z nv = nI b := by rw [← e_sum h w (by omega) nv (Nat.le_refl _), h5]
  have hb : b ≤ 32 := by
    have key : ∀ j : Nat, j ≤ nv → ∃ c : Nat, c ≤ 8 * j ∧ L_5overAll_4 2 z j = nI c := by
      intro j
      induction j with
      | zero => exact fun _ => ⟨0, Nat.le_refl _, rfl⟩
      | succ j ih =>
        intro hj
        obtain ⟨c, c1, c2⟩ := ih (by omega)
        have h8 := q.1.l8 j (by omega)
        refine ⟨c + lv z j, by omega, ?_⟩
        show L_5overAll_4 2 z j + F_5volumeNow j 2 z = _
        have e2 : F_5volumeNow j 2 z = nI (lv z j) := by
          unfold F_5volumeNow
          rw [if_neg (by decide), if_neg (by decide), if_neg (by decide), if_neg (by decide), if_neg (by decide), if_neg (by decide), if_neg (by decide)]
          exact (w.lv j (by omega)).1
        rw [c2, e2, nI_add]
    obtain ⟨c, c1, c2⟩ := key nv (Nat.le_refl _)
    rw [e2] at c2
    have := (nI_eq (by omega) (by omega)).mp c2
    omega
  have ef : F_0shareOfOpenLeaves nv T = if 0 < nI b then FP.ddiv (FP.i2d (nI a)) (FP.i2d (nI b)) else FP.dconst0 := by
    unfold F_0shareOfOpenLeaves
    rw [h3, h5]
  rw [ef, t_sum w q nv (Nat.le_refl _)]
  dsimp only
  rw [e9, e2, dm_1 (by omega)]
  have hq : ¬ nI b = 0 → 1 ≤ b := by
    intro hz
    rcases Nat.eq_zero_or_pos b with e | e
    · subst e; exact absurd rfl hz
    · exact e
  refine ⟨i2d_vf (by omega), fun hz => ?_, fun hz => ?_, fun hz => ?_⟩
  · exact SHd_vf (SHd_quot h1 (hq hz) (by omega))
  · rw [if_neg (by rw [hz]; decide)]
    exact SHd_self (Or.inl rfl)
  · have hb1 := hq hz
    rw [if_pos (by rw [← nI_0]; exact nI_lt hb1 (by omega))]
    exact SHd_self (SHd_quot h1 hb1 (by omega))
end TOLD
