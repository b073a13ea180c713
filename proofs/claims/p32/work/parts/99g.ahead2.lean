/-! WHAT WOULD BE: the law's minutes ahead and the class's answers -/
section AH
variable {V S N B R A O st C z : Nat → Int32} {T K : Nat → Nat → Int32} {nv nc nr ne m : Nat}
/-- after 296 minutes on a cradle there is nothing left to do -/
theorem dead_by {a0 a1 b2 g n : Nat} {r : Nat → Int32} (ha0 : a0 ≤ 9) (ha1 : a1 ≤ 9) (hb2 : b2 ≤ 200) (hg : g ≤ 2) (hn : n ≤ 8) (hr : RB r) {t : Nat} (ht : 296 ≤ t) : ¬ alive (nI g) n (it (nI a0) (nI a1) (nI b2) (nI g) n r t) := by
  have hc := cnt_le r n
  obtain ⟨u, u1, -, u2, -, u3⟩ := jm_it (n := n) ha0 ha1 hb2 hg (m := 2000) (by omega) 8 0 r (by omega) hr (by omega)
  have hu : u ≤ 296 := by
    have : 37 * cnt r n ≤ 37 * 8 := Nat.mul_le_mul_left _ (by omega)
    omega
  have hd : ¬ alive (nI g) n (it (nI a0) (nI a1) (nI b2) (nI g) n r u) := by
    rcases u3 with e | e
    · omega
    · exact e
  have e := it_add (nI a0) (nI a1) (nI b2) (nI g) n r u (t - u)
  rw [show u + (t - u) = t by omega, it_dead hd] at e
  rw [e]
  exact hd
/-- whether a cradle works in the next minute -/
def WK (z : Nat → Int32) (nv nc : Nat) : Prop := ∃ c, c < nc ∧ idZ z nv c = 0
theorem wk_106 (h : LC V S N R st z nv nc) (hu : PU z nv) : ∀ j : Nat, j ≤ nc → ∃ k : Nat, k ≤ j ∧ L_Lahead_106 nv V S R (nI 0) j = nI k ∧ (k = 0 ↔ ¬ ∃ c, c < j ∧ idZ z nv c = 0)
  | 0, _ => ⟨0, Nat.le_refl _, rfl, fun _ ⟨c, hc, _⟩ => by omega, fun _ => rfl⟩
  | j + 1, hj => by
    obtain ⟨k, h1, h2, h3⟩ := wk_106 h hu j (by omega)
    show ∃ k : Nat, k ≤ j + 1 ∧ B_Lahead_106 nv V S R j (L_Lahead_106 nv V S R (nI 0) j) = nI k ∧ _
    unfold B_Lahead_106
    rw [id_eq h hu (by omega), h2]
    by_cases hi : idZ z nv j = 0
    · rw [if_pos hi, nI_add]
      exact ⟨k + 1, by omega, rfl, fun q => by omega, fun q => absurd ⟨j, by omega, hi⟩ q⟩
    · rw [if_neg hi, nI_add]
      refine ⟨k, by omega, rfl, ?_⟩
      rw [h3]
      refine ⟨fun q ⟨c, hc, hz⟩ => ?_, fun q ⟨c, hc, hz⟩ => q ⟨c, by omega, hz⟩⟩
      by_cases e : c = j
      · subst e; exact hi hz
      · exact q ⟨c, by omega, hz⟩
theorem wk_0 (h : LC V S N R st z nv nc) (hu : PU z nv) : L_Lahead_106 nv V S R (nI 0) nc ≤ 0 ↔ ¬ WK z nv nc := by
  obtain ⟨k, h1, h2, h3⟩ := wk_106 h hu nc (Nat.le_refl _)
  have := h.n2
  rw [h2]
  unfold WK
  rw [← h3]
  constructor
  · intro q
    rcases Nat.eq_zero_or_pos k with e | e
    · exact e
    · exact absurd q (nI_nle e (by omega))
  · rintro rfl
    decide
/-- the copies -/
theorem LC.same (h : LC V S N R st z nv nc) {f1 f2 f3 f4 : Nat → Int32} : LC (F_LsameV_vo V f1) (F_LsameS_ls S f2) (F_LsameN_ln N f3) (F_LsameR_cr R f4) st z nv nc := by
  obtain ⟨h1, h2, h3, h4, h5, h6, h7, h8, h9⟩ := h
  refine ⟨h1, fun v w hv hw h0 => ?_, fun v hv => ?_, fun v k hv hk => ?_, fun v k hv hk => ?_, fun c w hc hw => ?_, h7, h8, h9⟩
  · rw [sa_V (by omega)]; exact h2 v w hv hw h0
  · rw [sa_V (by omega)]; exact h3 v hv
  · rw [sa_S (by omega)]; exact h4 v k hv hk
  · rw [sa_N (by omega)]; exact h5 v k hv hk
  · rw [sa_R (by omega)]; exact h6 c w hc hw
theorem TRF_sInT (h : RT T z nv nc) (w : WZ z nv nc nr ne) {m : Nat} (hm : m < 10000) : TRF T (F_4ifPassedE_T (nI m) nc T) := (sIn h w hm nc (Nat.le_refl _)).1
theorem TRF_215 (h : RT T z nv nc) (w : WZ z nv nc nr ne) : ∀ j : Nat, j ≤ nc → TRF T (L_Lahead_215 m T j)
  | 0, _ => TRF.refl T
  | j + 1, hj => by
    have ih := TRF_215 h w j (by omega)
    exact ih.trans (TRF_sOn (ih.rt h w.nv.2 w.nc.2) w (by omega) _)
abbrev LA (nv nc nr m : Nat) (T : Nat → Nat → Int32) (V S N R A st C : Nat → Int32) (j : Nat) := L_Lahead_92 nv nc nr m T V S N R A st C j
/-- a round of the thousand minutes -/
theorem la_s (j : Nat) : LA nv nc nr m T V S N R A st C (j + 1) = B_Lahead_92 nv nc nr m st j (LA nv nc nr m T V S N R A st C j).1 (LA nv nc nr m T V S N R A st C j).2.1 (LA nv nc nr m T V S N R A st C j).2.2.1 (LA nv nc nr m T V S N R A st C j).2.2.2.1 (LA nv nc nr m T V S N R A st C j).2.2.2.2.1 (LA nv nc nr m T V S N R A st C j).2.2.2.2.2.1 (LA nv nc nr m T V S N R A st C j).2.2.2.2.2.2.1 (LA nv nc nr m T V S N R A st C j).2.2.2.2.2.2.2 := rfl
theorem b92 {j : Nat} {x : Int32} {v s n r a c : Nat → Int32} {Y : Nat → Nat → Int32} : (B_Lahead_92 nv nc nr m st j x v s n r a c Y).1 = (if L_Lahead_106 nv v s r (nI 0) nc ≤ 0 then x else nI (1 + j)) ∧ (B_Lahead_92 nv nc nr m st j x v s n r a c Y).2.1 = F_Lminute_vo nv nc v s n r st ∧ (B_Lahead_92 nv nc nr m st j x v s n r a c Y).2.2.1 = F_Lminute_ls nv nc v s n r st ∧ (B_Lahead_92 nv nc nr m st j x v s n r a c Y).2.2.2.1 = F_Lminute_ln nv nc v s n r st ∧ (B_Lahead_92 nv nc nr m st j x v s n r a c Y).2.2.2.2.1 = F_Lminute_cr nv nc v s n r st ∧ (B_Lahead_92 nv nc nr m st j x v s n r a c Y).2.2.2.2.2.2.2 = if 1 + j = m then L_Lahead_215 m (F_4ifPassedE_T (nI m) nc Y) nc else Y := by
  unfold B_Lahead_92
  by_cases h1 : L_Lahead_106 nv v s r (nI 0) nc ≤ 0
  · by_cases h2 : 1 + j = m
    · simp only [if_pos h1, if_pos h2, and_self]
    · simp only [if_pos h1, if_neg h2, and_self]
  · by_cases h2 : 1 + j = m
    · simp only [if_neg h1, if_pos h2, and_self]
    · simp only [if_neg h1, if_neg h2, and_self]
theorem la_inv (h : RT T z nv nc) (w : WZ z nv nc nr ne) (q : LC V S N R st z nv nc) (hm : m < 10000) : ∀ j : Nat, LC (LA nv nc nr m T V S N R A st C j).2.1 (LA nv nc nr m T V S N R A st C j).2.2.1 (LA nv nc nr m T V S N R A st C j).2.2.2.1 (LA nv nc nr m T V S N R A st C j).2.2.2.2.1 st (mnN nv nc nr z j) nv nc ∧ PU (mnN nv nc nr z j) nv ∧ TRF T (LA nv nc nr m T V S N R A st C j).2.2.2.2.2.2.2
  | 0 => ⟨q.same, w.pu, TRF.refl T⟩
  | j + 1 => by
    obtain ⟨i1, i2, i3⟩ := la_inv h w q hm j
    obtain ⟨e0, e1, e2, e3, e4, e5⟩ := b92 (nv := nv) (nc := nc) (nr := nr) (m := m) (st := st) (j := j) (x := (LA nv nc nr m T V S N R A st C j).1) (v := (LA nv nc nr m T V S N R A st C j).2.1) (s := (LA nv nc nr m T V S N R A st C j).2.2.1) (n := (LA nv nc nr m T V S N R A st C j).2.2.2.1) (r := (LA nv nc nr m T V S N R A st C j).2.2.2.2.1) (a := (LA nv nc nr m T V S N R A st C j).2.2.2.2.2.1) (c := (LA nv nc nr m T V S N R A st C j).2.2.2.2.2.2.1) (Y := (LA nv nc nr m T V S N R A st C j).2.2.2.2.2.2.2)
    have hmn := lm_minute i1 (ZI_mnN w.zi j) i2
    rw [la_s, e1, e2, e3, e4, e5]
    refine ⟨hmn.1, hmn.2.1, ?_⟩
    split
    · have hr := i3.rt h w.nv.2 w.nc.2
      have h1 := TRF_sInT hr w hm
      exact i3.trans (h1.trans (TRF_215 (h1.rt hr w.nv.2 w.nc.2) w nc (Nat.le_refl _)))
    · exact i3
theorem la_cr (h : RT T z nv nc) (w : WZ z nv nc nr ne) (q : LC V S N R st z nv nc) (hm : m < 10000) (j : Nat) : ∀ c i, c < 2 → i < 4 → F_Lminute_cr nv nc (LA nv nc nr m T V S N R A st C j).2.1 (LA nv nc nr m T V S N R A st C j).2.2.1 (LA nv nc nr m T V S N R A st C j).2.2.2.1 (LA nv nc nr m T V S N R A st C j).2.2.2.2.1 st (4 * c + i) = mnN nv nc nr z (j + 1) (95 + 4 * c + i) := by
  obtain ⟨i1, i2, -⟩ := la_inv (A := A) (C := C) h w q hm j
  exact (lm_minute i1 (ZI_mnN w.zi j) i2).1.cra
theorem sc_2 (w : WZ z nv nc nr ne) (q : LC V S N R st z nv nc) {R' : Nat → Int32} (hR : ∀ c i, c < 2 → i < 4 → R' (4 * c + i) = z (95 + 4 * c + i)) : F_Lscanned R' = SC z nc := by
  have h2 := q.n2
  unfold F_Lscanned
  rw [show R' 3 = z (95 + 4 * 0 + 3) from hR 0 3 (by omega) (by omega), show R' 7 = z (95 + 4 * 1 + 3) from hR 1 3 (by omega) (by omega)]
  have e : ∀ c, nc ≤ c → c < 2 → z (95 + 4 * c + 3) = 0 := fun c h1 h2 => w.cra0 c 3 h1 (by omega) (by omega)
  match nc, h2, e with
  | 0, _, e => rw [e 0 (by omega) (by omega), e 1 (by omega) (by omega)]; rfl
  | 1, _, e => rw [e 1 (by omega) (by omega)]; show _ = (0 : Int32) + _; rw [Int32.add_zero, Int32.zero_add]
  | 2, _, _ => show _ = (0 : Int32) + _ + _; rw [Int32.zero_add]
  | k + 3, h, _ => omega
/-- the last minute in which something works -/
theorem la_last (h : RT T z nv nc) (w : WZ z nv nc nr ne) (q : LC V S N R st z nv nc) (hm : m < 10000) {D : Nat} (h1 : ∀ j, WK (mnN nv nc nr z j) nv nc → j < D) (h2 : ∀ j, j + 1 = D → WK (mnN nv nc nr z j) nv nc) : ∀ j : Nat, j ≤ 1000 → ∃ k : Nat, k ≤ j ∧ (LA nv nc nr m T V S N R A st C j).1 = nI k ∧ (D ≤ j → k = D)
  | 0, _ => ⟨0, by omega, rfl, fun e => by omega⟩
  | j + 1, hj => by
    obtain ⟨k, k1, k2, k3⟩ := la_last h w q hm h1 h2 j (by omega)
    obtain ⟨i1, i2, -⟩ := la_inv (A := A) (C := C) (m := m) h w q hm j
    rw [la_s, b92.1, k2]
    by_cases hw : WK (mnN nv nc nr z j) nv nc
    · rw [if_neg (fun e => (wk_0 i1 i2).mp e hw)]
      refine ⟨1 + j, by omega, rfl, fun e => ?_⟩
      have := h1 j hw
      omega
    · rw [if_pos ((wk_0 i1 i2).mpr hw)]
      refine ⟨k, by omega, rfl, fun e => ?_⟩
      by_cases e2 : D ≤ j
      · exact k3 e2
      · exact absurd (h2 j (by omega)) hw
end AH
