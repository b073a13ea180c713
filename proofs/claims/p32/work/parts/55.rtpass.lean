/-! MINUTES keep the relation -/
theorem ST_SC {T : Nat → Nat → Int32} {z : Nat → Int32} {nv nc : Nat} (h : RT T z nv nc) : ∀ j : Nat, j ≤ 4 → ST T j = SC z j
  | 0, _ => rfl
  | j + 1, hj => by
    rw [ST_s, SC_s, ST_SC h j (by omega), (h.cra j (by omega)).2.2.2]
section RTP
variable {T : Nat → Nat → Int32} {z : Nat → Int32} {nv nc nr ne m : Nat}
theorem RT_pass (h : RT T z nv nc) (w : WZ z nv nc nr ne) (hm : m < 10000) : RT (F_0letMinutesPass_T (nI m) nv nc nr T) (mnN nv nc nr z m) nv nc ∧ F_0letMinutesPass (nI m) nc T = SC (mnN nv nc nr z m) nc - SC z nc := by
  have h12 := w.nv.2
  have h4 := w.nc.2
  have h3 := w.nr.2
  obtain ⟨hF, hG, hS⟩ := ps4 h w hm nc (Nat.le_refl _)
  obtain ⟨b0, b1, b2⟩ := ps87 (T := T) (nc := nc) (m := m) nr
  obtain ⟨c0, c1, c2⟩ := ps128 (T := T) (nc := nc) (nr := nr) (m := m) nv
  have hM := w.MN m
  obtain ⟨a1, a2, a3, a4, a5⟩ := id hM
  have fr : ∀ {i : Nat}, (∀ c v, c < 4 → v < 12 → ¬ AC1 c v i) → (∀ r, r < 3 → i ≠ 111 + 4 * r + 1) → (∀ v, v < 12 → i ≠ 11 + 7 * v + 6) → i ≠ 3 → mnN nv nc nr z m i = z i := fun h1 h2 h5 h6 => hM.fr h12 h4 h3 h1 h2 h5 h6
  have hvo : ∀ x, vo (mnN nv nc nr z m) x nv = vo z x nv := fun x => vo_congr nv fun q hq => fr (fun c v hc hv => by unfold AC1; omega) (by omega) (by omega) (by omega)
  -- the class's cells
  have t1 : F_0letMinutesPass_T (nI m) nv nc nr T 1 = (L_0letMinutesPass_4 (nI m) T nc).2 1 := by
    unfold F_0letMinutesPass_T
    rw [tu_ne (by decide), c0 _ (by decide), b0 _ (by decide)]
  have t2 : F_0letMinutesPass_T (nI m) nv nc nr T 2 = (L_0letMinutesPass_4 (nI m) T nc).2 2 := by
    unfold F_0letMinutesPass_T
    rw [tu_ne (by decide), c0 _ (by decide), b0 _ (by decide)]
  have t3 : F_0letMinutesPass_T (nI m) nv nc nr T 3 = L_0letMinutesPass_87 (nI m) nc T nr 3 := by
    unfold F_0letMinutesPass_T
    rw [tu_ne (by decide), c0 _ (by decide)]
  have t4 : F_0letMinutesPass_T (nI m) nv nc nr T 4 = T 4 := by
    unfold F_0letMinutesPass_T
    rw [tu_ne (by decide), c0 _ (by decide), b0 _ (by decide), hF.1 4 (by decide) (by decide) (by decide)]
  have t5 : F_0letMinutesPass_T (nI m) nv nc nr T 5 = upd (T 5) 3 (T 5 3 + nI m) := by
    unfold F_0letMinutesPass_T
    rw [tu_eq, c0 _ (by decide), b0 _ (by decide), hF.1 5 (by decide) (by decide) (by decide)]
  have t0 : F_0letMinutesPass_T (nI m) nv nc nr T 0 = L_0letMinutesPass_128 (nI m) nc nr T nv 0 := by
    unfold F_0letMinutesPass_T
    rw [tu_ne (by decide)]
  have t0n : ∀ v x, v < 12 → x < 7 → x ≠ 6 → F_0letMinutesPass_T (nI m) nv nc nr T 0 (v * 7 + x) = (L_0letMinutesPass_4 (nI m) T nc).2 0 (v * 7 + x) := fun v x hv hx h6 => by
    rw [t0, c2 _ (by omega), b0 _ (by decide)]
  have trec : ∀ c v, c < nc → vo z (nI c) nv = some v → gT (F_0letMinutesPass_T (nI m) nv nc nr T) c v = gZ (mnN nv nc nr z m) c v := by
    intro c v hc hv
    have hvn := vo_lt hv
    obtain ⟨a, ha, ea⟩ := (w.vol v hvn).2.2.2.2
    rw [a1 c v a hc hv (by omega) ea, ← hG c v a hc hv (by omega) ea]
    funext i
    match i with
    | 0 => exact congrFun t2 _
    | 1 => exact congrFun t2 _
    | 2 => exact t0n v 3 (by omega) (by omega) (by omega)
    | 3 => exact t0n v 4 (by omega) (by omega) (by omega)
    | q + 4 =>
      show (if q < 120 then _ else _) = if q < 120 then _ else _
      rw [t1]
  have hoff : ∀ v i, v < 12 → (∀ c, c < nc → vo z (nI c) nv ≠ some v) → (i = 11 + 7 * v + 3 ∨ i = 11 + 7 * v + 4 ∨ (423 + 120 * v ≤ i ∧ i < 423 + 120 * v + 120)) → mnN nv nc nr z m i = z i := by
    intro v i hv ho hi
    refine a5 i (fun c v' hc hv' => ?_) (by omega) (by omega) (by omega)
    have := vo_lt hv'
    have : v' ≠ v := fun e => ho c hc (by rw [hv', e])
    unfold AC1
    omega
  have hoffT : ∀ v, v < 12 → (∀ c, c < nc → vo z (nI c) nv ≠ some v) → ∀ c v', c < nc ∧ vo z (nI c) nv = some v' → v' ≠ v := fun v hv ho c v' p e => ho c p.1 (by rw [p.2, e])
  have lf0 : ∀ v, v < nv → F_0letMinutesPass_T (nI m) nv nc nr T 0 (v * 7 + 6) = mnN nv nc nr z m (11 + 7 * v + 6) := by
    intro v hv
    obtain ⟨a, ha, ea⟩ := (w.vol v hv).2.2.2.2
    rw [a3 v a hv (by omega) ea, t0, c1 v hv, b0 _ (by decide), hF.2.1 _ (fun c v' p => by omega), h.vol v 6 (by omega) (by omega) (by omega), ea, max0 (by omega) hm]
  refine ⟨⟨fun k hk => ?_, fun v x hv hx h5 => ?_, fun v hv => ?_, fun v hv hv' => ?_, fun v k x hv hk hx => ?_, fun c hc => ⟨?_, ?_, ?_, ?_⟩, fun c hc => ?_, fun c hc hc' => ?_, fun r x hr hx => ?_, fun e x he hx => ?_⟩, ?_⟩
  · rw [t5]
    by_cases e : k = 3
    · subst e
      rw [upd_eq, a4, h.num 3 (by omega)]
    · rw [upd_ne e, h.num k hk, fr (fun c v hc hv => by unfold AC1; omega) (by omega) (by omega) e]
  · by_cases h6 : x = 6
    · subst h6
      by_cases hn : v < nv
      · exact lf0 v hn
      · rw [a5 _ (fun c v' hc hv' => by have := vo_lt hv'; unfold AC1; omega) (by omega) (by omega) (by omega), t0, c2 _ (by omega), b0 _ (by decide), hF.2.1 _ (fun c v' p => by omega), h.vol v 6 (by omega) (by omega) (by omega)]
    · by_cases ho : ∃ c, c < nc ∧ vo z (nI c) nv = some v
      · obtain ⟨c, hc, hcv⟩ := ho
        have e := trec c v hc hcv
        by_cases x3 : x = 3
        · subst x3; exact congrFun e 2
        · by_cases x4 : x = 4
          · subst x4; exact congrFun e 3
          · rw [t0n v x hv hx h6, hF.2.1 _ (fun c v' p => by omega), h.vol v x hv hx h5, fr (fun c v hc hv => by unfold AC1; omega) (by omega) (by omega) (by omega)]
      · have ho' : ∀ c, c < nc → vo z (nI c) nv ≠ some v := fun c hc e => ho ⟨c, hc, e⟩
        rw [t0n v x hv hx h6, hF.2.1 _ (fun c v' p => by have := hoffT v hv ho' c v' p; omega), h.vol v x hv hx h5]
        by_cases x3 : x = 3 ∨ x = 4
        · exact (hoff v _ hv ho' (by omega)).symm
        · exact (fr (fun c v hc hv => by unfold AC1; omega) (by omega) (by omega) (by omega)).symm
  · rw [t0n v 5 (by omega) (by omega) (by omega), hF.2.1 _ (fun c v' p => by omega), h.pl v hv, fr (fun c v hc hv => by unfold AC1; omega) (by omega) (by omega) (by omega)]
  · rw [t0n v 5 (by omega) (by omega) (by omega), hF.2.1 _ (fun c v' p => by omega), h.pl0 v hv hv']
  · by_cases ho : ∃ c, c < nc ∧ vo z (nI c) nv = some v
    · obtain ⟨c, hc, hcv⟩ := ho
      have e := congrFun (trec c v hc hcv) (4 + (3 * k + x))
      rw [gT_leaf _ _ _ _ (by omega), gZ_leaf _ _ _ _ (by omega)] at e
      rw [show v * 120 + (k * 3 + x) = v * 120 + (3 * k + x) by omega, e]
      exact congrArg _ (by omega)
    · have ho' : ∀ c, c < nc → vo z (nI c) nv ≠ some v := fun c hc e => ho ⟨c, hc, e⟩
      rw [t1, hF.2.2.1 _ (fun c v' p => by have := hoffT v hv ho' c v' p; omega), h.leaf v k x hv hk hx]
      exact (hoff v _ hv ho' (by omega)).symm
  · rw [t2, hF.2.2.2 _ (fun c v p => by omega), (h.cra c hc).1, fr (fun c v hc hv => by unfold AC1; omega) (by omega) (by omega) (by omega)]
  · rw [t2, hF.2.2.2 _ (fun c v p => by omega), (h.cra c hc).2.1, fr (fun c v hc hv => by unfold AC1; omega) (by omega) (by omega) (by omega)]
  · by_cases ho : ∃ v, c < nc ∧ vo z (nI c) nv = some v
    · obtain ⟨v, hcn, hcv⟩ := ho
      exact congrFun (trec c v hcn hcv) 0
    · have ho' : ∀ c' v, c' < nc ∧ vo z (nI c') nv = some v → c' ≠ c := fun c' v p e => ho ⟨v, by rw [← e]; exact p⟩
      rw [t2, hF.2.2.2 _ (fun c' v p => by have := ho' c' v p; omega), (h.cra c hc).2.2.1]
      exact (a5 _ (fun c' v hc' hv => by have := vo_lt hv; have := ho' c' v ⟨hc', hv⟩; unfold AC1; omega) (by omega) (by omega) (by omega)).symm
  · by_cases ho : ∃ v, c < nc ∧ vo z (nI c) nv = some v
    · obtain ⟨v, hcn, hcv⟩ := ho
      exact congrFun (trec c v hcn hcv) 1
    · have ho' : ∀ c' v, c' < nc ∧ vo z (nI c') nv = some v → c' ≠ c := fun c' v p e => ho ⟨v, by rw [← e]; exact p⟩
      rw [t2, hF.2.2.2 _ (fun c' v p => by have := ho' c' v p; omega), (h.cra c hc).2.2.2]
      exact (a5 _ (fun c' v hc' hv => by have := vo_lt hv; have := ho' c' v ⟨hc', hv⟩; unfold AC1; omega) (by omega) (by omega) (by omega)).symm
  · rw [t2, hF.2.2.2 _ (fun c v p => by omega), h.held c hc, hvo]
  · rw [t2, hF.2.2.2 _ (fun c v p => by omega), h.held0 c hc hc']
  · by_cases e : x = 1 ∧ r < nr
    · obtain ⟨e1, e2⟩ := e
      subst e1
      obtain ⟨a, ha, ea⟩ := (w.car r hr).2
      rw [a2 r a e2 (by omega) ea, t3, b1 r e2, hF.1 3 (by decide) (by decide) (by decide), h.car r 1 hr (by omega), ea, max0 (by omega) hm]
    · rw [t3, b2 _ (by omega), hF.1 3 (by decide) (by decide) (by decide), h.car r x hr hx]
      exact (a5 _ (fun c v hc hv => by have := vo_lt hv; unfold AC1; omega) (by omega) (by omega) (by omega)).symm
  · rw [t4, h.ent e x he hx]
    exact (fr (fun c v hc hv => by unfold AC1; omega) (by omega) (by omega) (by omega)).symm
  · unfold F_0letMinutesPass
    rw [hS, ST_SC h nc h4]
    congr 1
    clear hS hG
    have key : ∀ j, j ≤ nc → ST (L_0letMinutesPass_4 (nI m) T nc).2 j = SC (mnN nv nc nr z m) j := by
      intro j
      induction j with
      | zero => exact fun _ => rfl
      | succ j ih =>
        intro hj
        rw [ST_s, SC_s, ih (by omega)]
        congr 1
        by_cases ho : ∃ v, vo z (nI j) nv = some v
        · obtain ⟨v, hcv⟩ := ho
          rw [← t2]
          exact congrFun (trec j v (by omega) hcv) 1
        · have ho' : ∀ c' v, c' < nc ∧ vo z (nI c') nv = some v → c' ≠ j := fun c' v p e => ho ⟨v, by rw [← e]; exact p.2⟩
          rw [hF.2.2.2 _ (fun c' v p => by have := ho' c' v p; omega), (h.cra j (by omega)).2.2.2]
          exact (a5 _ (fun c' v hc' hv => by have := vo_lt hv; have := ho' c' v ⟨hc', hv⟩; unfold AC1; omega) (by omega) (by omega) (by omega)).symm
    exact key nc (Nat.le_refl _)
theorem sub_tri (a b c : Int32) : (a - c) + (b - a) = b - c := by
  rw [i_sub4, Int32.add_comm a b, Int32.add_comm c a, Int32.add_comm b a, ← i_sub4, Int32.sub_self, Int32.zero_add]
theorem pass50 (w : WZ z nv nc nr ne) : ∀ j : Nat, L_5pass_50 nv nc nr z j = (SC (mnN nv nc nr z j) nc - SC z nc, mnN nv nc nr z j)
  | 0 => by
    show (nI 0, z) = (SC z nc - SC z nc, z)
    rw [Int32.sub_self]
    rfl
  | j + 1 => by
    show B_5pass_50 nv nc nr j (L_5pass_50 nv nc nr z j).1 (L_5pass_50 nv nc nr z j).2 = _
    rw [pass50 w j]
    unfold B_5pass_50
    have e := (minZ (ZI_mnN w.zi j)).2.2.2.2.2
    dsimp only
    rw [e, sub_tri]
    rfl
end RTP
