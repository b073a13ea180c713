/-! LOADS: the law's two loops are the reference's search -/
section SRC
variable {g : Nat → Nat → Option Nat} {ga : Nat → Int32}
/-- a cradle with which no volume goes -/
theorem rl_no (hga : ∀ c v, c < 4 → v < 12 → ga (12 * c + v) = oI (g c v)) (hb : ∀ c v k, g c v = some k → k ≤ 40) {D : Nat} (hD : D < 4) (hg : ∀ v, v < 12 → g D v = none) (rs : SG → SG) (pi be : Nat → Int32) (bm : Int32) : ∀ j : Nat, j ≤ 12 → (rl ga D rs (upd pi D (-2), be, bm) j).2 = (rs (upd pi D (-1), be, bm)).2 ∧ ∀ c, c ≠ D → (rl ga D rs (upd pi D (-2), be, bm) j).1 c = (rs (upd pi D (-1), be, bm)).1 c
  | 0, _ => by rw [rl_0]; exact ⟨rfl, fun _ _ => rfl⟩
  | j + 1, hj => by
    obtain ⟨i1, i2⟩ := rl_no hga hb hD hg rs pi be bm j (by omega)
    rw [rl_s (show j < 12 by omega), if_pos ((can_v hga hb hD (show j < 12 by omega) _).mpr (Or.inl (hg j (by omega))))]
    exact ⟨i1, fun c hc => (upd_ne hc).trans (i2 c hc)⟩
theorem sub1_at (hga : ∀ c v, c < 4 → v < 12 → ga (12 * c + v) = oI (g c v)) (hb : ∀ c v k, g c v = some k → k ≤ 40) (h2 : ∀ v, v < 12 → g 2 v = none) (h3 : ∀ v, v < 12 → g 3 v = none) (pi be : Nat → Int32) (bm : Int32) : (∀ c, c < 2 → (sub1 ga (pi, be, bm)).1 c = pi c) ∧ (sub1 ga (pi, be, bm)).2.2 = (if L_5keepPicks_4 ga pi 2 ≤ bm then bm else L_5keepPicks_4 ga pi 2) ∧ ∀ k, k < 4 → (sub1 ga (pi, be, bm)).2.1 k = if L_5keepPicks_4 ga pi 2 ≤ bm then be k else if k < 2 then pi k else -1 := by
  obtain ⟨a1, a2⟩ := rl_no hga hb (show 2 < 4 by omega) h2 (sub2 ga) pi be bm 12 (by omega)
  obtain ⟨b1, b2⟩ := rl_no hga hb (show 3 < 4 by omega) h3 (sub3 ga) (upd pi 2 (-1)) be bm 12 (by omega)
  have e1 : sub1 ga (pi, be, bm) = rl ga 2 (sub2 ga) (upd pi 2 (-2), be, bm) 12 := dv_12
  have e2 : sub2 ga (upd pi 2 (-1), be, bm) = rl ga 3 (sub3 ga) (upd (upd pi 2 (-1)) 3 (-2), be, bm) 12 := dv_12
  have k4 : L_5keepPicks_4 ga (upd (upd pi 2 (-1)) 3 (-1)) 4 = L_5keepPicks_4 ga pi 2 := by
    rw [kp_up (p := upd pi 2 (-1)) (pi := upd pi 2 (-1)) (fun _ _ => rfl), if_pos rfl, i_a0, kp_up (p := pi) (pi := pi) (fun _ _ => rfl), if_pos rfl, i_a0]
  obtain ⟨k1, k2⟩ := kpW (ga := ga) (upd (upd pi 2 (-1)) 3 (-1)) be bm
  rw [k4] at k1 k2
  rw [← e1, e2] at a1
  rw [e1]
  refine ⟨fun c hc => ?_, ?_, fun k hk => ?_⟩
  · rw [a2 c (by omega), e2, b2 c (by omega)]
    show upd (upd pi 2 (-1)) 3 (-1) c = pi c
    rw [upd_ne (by omega), upd_ne (by omega)]
  · rw [← e1, a1, b1]
    exact k1
  · rw [← e1, a1, b1]
    refine (k2 k hk).trans ?_
    by_cases q : L_5keepPicks_4 ga pi 2 ≤ bm
    · rw [if_pos q, if_pos q]
    · rw [if_neg q, if_neg q]
      obtain rfl | rfl | rfl | rfl : k = 0 ∨ k = 1 ∨ k = 2 ∨ k = 3 := by omega
      · rw [upd_ne (by omega), upd_ne (by omega), if_pos (by omega)]
      · rw [upd_ne (by omega), upd_ne (by omega), if_pos (by omega)]
      · rw [upd_ne (by omega), upd_eq, if_neg (by omega)]
      · rw [upd_eq, if_neg (by omega)]
variable {V S N R st C : Nat → Int32} {nv nc nr m : Nat}
/-- the law's record agrees with the reference's -/
def KR (be : Nat → Int32) (bm x8 x9 x10 : Int32) : Prop := bm = x8 ∧ be 0 = x9 ∧ be 1 = x10 ∧ be 2 = -1 ∧ be 3 = -1
/-- one candidate -/
theorem kr_c (hga : ∀ c v, c < 4 → v < 12 → ga (12 * c + v) = oI (g c v)) (hb : ∀ c v k, g c v = some k → k ≤ 40) (h2 : ∀ v, v < 12 → g 2 v = none) (h3 : ∀ v, v < 12 → g 3 v = none) {pi be : Nat → Int32} {bm x8 x9 x10 : Int32} (hP : bm = x8 ∧ (bm = -1 ∨ KR be bm x8 x9 x10)) {t : Nat} (ht : t < 1000) (hs : L_5keepPicks_4 ga pi 2 = nI t) : KR (sub1 ga (pi, be, bm)).2.1 (sub1 ga (pi, be, bm)).2.2 (if x8 < nI t then nI t else x8) (if x8 < nI t then pi 0 else x9) (if x8 < nI t then pi 1 else x10) := by
  obtain ⟨a1, a2, a3⟩ := sub1_at hga hb h2 h3 pi be bm
  obtain ⟨rfl, hP⟩ := hP
  rw [hs] at a2 a3
  by_cases q : nI t ≤ bm
  · have q' : ¬ bm < nI t := Int32.not_lt.mpr q
    rw [if_pos q] at a2
    have hR : KR be bm bm x9 x10 := by
      rcases hP with e | e
      · subst e
        exact absurd (Int32.lt_of_lt_of_le (show (-1 : Int32) < 0 by decide) (Int32.not_lt.mp (nI_neg (a := t) (by omega)))) (Int32.not_lt.mpr q)
      · exact e
    obtain ⟨r1, r2, r3, r4, r5⟩ := hR
    rw [if_neg q', if_neg q', if_neg q']
    exact ⟨a2, by rw [a3 0 (by omega), if_pos q, r2], by rw [a3 1 (by omega), if_pos q, r3], by rw [a3 2 (by omega), if_pos q, r4], by rw [a3 3 (by omega), if_pos q, r5]⟩
  · have q' : bm < nI t := Int32.not_le.mp q
    rw [if_neg q] at a2
    rw [if_pos q', if_pos q', if_pos q']
    exact ⟨a2, by rw [a3 0 (by omega), if_neg q, if_pos (by omega)], by rw [a3 1 (by omega), if_neg q, if_pos (by omega)], by rw [a3 2 (by omega), if_neg q, if_neg (by omega)], by rw [a3 3 (by omega), if_neg q, if_neg (by omega)]⟩
theorem pick_m {j12 : Nat} (h : j12 < 1000) : nI j12 - nI 1 < 0 ↔ j12 = 0 := by
  rcases Nat.eq_zero_or_pos j12 with e | e
  · subst e; exact ⟨fun _ => rfl, fun _ => by decide⟩
  · rw [pk_sub (by omega)]
    exact ⟨fun x => absurd x (nI_neg (by omega)), fun x => by omega⟩
theorem pick_e {j12 j : Nat} (h : j12 < 1000) (hj : j < 1000) : nI j12 - nI 1 = nI j ↔ j12 = j + 1 := by
  rcases Nat.eq_zero_or_pos j12 with e | e
  · subst e; exact ⟨fun q => absurd q (by rw [of1_0]; exact fun e => nI_m1 (by omega) e.symm), fun q => by omega⟩
  · rw [pk_sub (by omega), nI_eq (by omega) (by omega)]
    omega
theorem in43 (hga : ∀ c v, c < 4 → v < 12 → ga (12 * c + v) = oI (g c v)) (hb : ∀ c v k, g c v = some k → k ≤ 40) (h2 : ∀ v, v < 12 → g 2 v = none) (h3 : ∀ v, v < 12 → g 3 v = none) (hn : ∀ v, nv ≤ v → v < 12 → g 1 v = none) (h4 : nv ≤ 4) (hG : ∀ v, v < nv → gVal nv nc nr m 1 V S N R st C (v + 1) = oI (g 1 v)) {j12 s : Nat} (hj12 : j12 < 14) (hs40 : s ≤ 40) {pi be : Nat → Int32} {bm x8 x9 x10 : Int32} {t : List (Nat × (Nat → Int32))} (hp0 : pi 0 = nI j12 - nI 1) (hk : L_5keepPicks_4 ga pi 1 = nI s) (hf : gVal nv nc nr m 0 V S N R st C j12 = nI s) (hP : bm = x8 ∧ (bm = -1 ∨ KR be bm x8 x9 x10)) : ∀ j : Nat, j ≤ 12 → (rl ga 1 (sub1 ga) (upd pi 1 (-2), be, bm) j).1 0 = pi 0 ∧ KR (rl ga 1 (sub1 ga) (upd pi 1 (-2), be, bm) j).2.1 (rl ga 1 (sub1 ga) (upd pi 1 (-2), be, bm) j).2.2 (L_Lloads_43 m nv nc nr V S N R st C j12 x8 x9 x10 t (min j nv + 1)).1 (L_Lloads_43 m nv nc nr V S N R st C j12 x8 x9 x10 t (min j nv + 1)).2.1 (L_Lloads_43 m nv nc nr V S N R st C j12 x8 x9 x10 t (min j nv + 1)).2.2.1
  | 0, _ => by
    have hk2 : L_5keepPicks_4 ga (upd pi 1 (-1)) 2 = nI s := by
      rw [kp_up (p := pi) (pi := pi) (fun _ _ => rfl), if_pos rfl, hk, i_a0]
    have hc := kr_c hga hb h2 h3 (pi := upd pi 1 (-1)) hP (t := s) (by omega) hk2
    rw [upd_ne (by omega), upd_eq] at hc
    have h1 := (sub1_at hga hb h2 h3 (upd pi 1 (-1)) be bm).1 0 (by omega)
    rw [rl_0, show min 0 nv + 1 = 0 + 1 by omega]
    refine ⟨h1.trans (upd_ne (by omega)), ?_⟩
    show KR _ _ (B_Lloads_43 m nv nc nr V S N R st C j12 0 x8 x9 x10 t).1 (B_Lloads_43 m nv nc nr V S N R st C j12 0 x8 x9 x10 t).2.1 (B_Lloads_43 m nv nc nr V S N R st C j12 0 x8 x9 x10 t).2.2.1
    have g0 : gVal nv nc nr m 1 V S N R st C 0 = nI 0 := rfl
    have n0 : ¬ nI 0 < 0 := by decide
    have em : nI j12 - nI 1 = nI 0 - nI 1 ↔ j12 = 0 := by
      rcases Nat.eq_zero_or_pos j12 with e | e
      · subst e; exact ⟨fun _ => rfl, fun _ => rfl⟩
      · rw [pk_sub (by omega), of1_0]
        exact ⟨fun x => absurd x (nI_m1 (by omega)), fun x => by omega⟩
    unfold B_Lloads_43
    rw [g0, if_neg n0, hf, i_a0, of1_0] at *
    by_cases e0 : nI j12 - nI 1 < 0
    · rw [if_pos e0]
      by_cases q : x8 < nI s
      · simp only [if_pos q, hp0] at hc ⊢
        exact hc
      · simp only [if_neg q] at hc ⊢
        exact hc
    · rw [if_neg e0, if_neg (fun e => e0 ((pick_m (by omega)).mpr (em.mp e)))]
      by_cases q : x8 < nI s
      · simp only [if_pos q, hp0] at hc ⊢
        exact hc
      · simp only [if_neg q] at hc ⊢
        exact hc
  | j + 1, hj => by
    obtain ⟨i1, i2⟩ := in43 hga hb h2 h3 hn h4 hG hj12 hs40 hp0 hk hf hP j (by omega) (t := t)
    rw [rl_s (show j < 12 by omega)]
    generalize rl ga 1 (sub1 ga) (upd pi 1 (-2), be, bm) j = X at i1 i2
    have hcan := can_v hga hb (D := 1) (v := j) (by omega) (by omega) X.1
    have hus : usd X.1 1 j = true ↔ nI j12 - nI 1 = nI j := by
      unfold usd usd
      rw [i1, hp0, Bool.false_or, decide_eq_true_iff]
    by_cases hjn : j < nv
    · rw [show min (j + 1) nv + 1 = (j + 1) + 1 by omega]
      rw [show min j nv + 1 = j + 1 by omega] at i2
      have hg := hG j hjn
      show _ ∧ KR _ _ (B_Lloads_43 m nv nc nr V S N R st C j12 (j + 1) (L_Lloads_43 m nv nc nr V S N R st C j12 x8 x9 x10 t (j + 1)).1 (L_Lloads_43 m nv nc nr V S N R st C j12 x8 x9 x10 t (j + 1)).2.1 (L_Lloads_43 m nv nc nr V S N R st C j12 x8 x9 x10 t (j + 1)).2.2.1 (L_Lloads_43 m nv nc nr V S N R st C j12 x8 x9 x10 t (j + 1)).2.2.2).1 (B_Lloads_43 m nv nc nr V S N R st C j12 (j + 1) (L_Lloads_43 m nv nc nr V S N R st C j12 x8 x9 x10 t (j + 1)).1 (L_Lloads_43 m nv nc nr V S N R st C j12 x8 x9 x10 t (j + 1)).2.1 (L_Lloads_43 m nv nc nr V S N R st C j12 x8 x9 x10 t (j + 1)).2.2.1 (L_Lloads_43 m nv nc nr V S N R st C j12 x8 x9 x10 t (j + 1)).2.2.2).2.1 (B_Lloads_43 m nv nc nr V S N R st C j12 (j + 1) (L_Lloads_43 m nv nc nr V S N R st C j12 x8 x9 x10 t (j + 1)).1 (L_Lloads_43 m nv nc nr V S N R st C j12 x8 x9 x10 t (j + 1)).2.1 (L_Lloads_43 m nv nc nr V S N R st C j12 x8 x9 x10 t (j + 1)).2.2.1 (L_Lloads_43 m nv nc nr V S N R st C j12 x8 x9 x10 t (j + 1)).2.2.2).2.2.1
      generalize L_Lloads_43 m nv nc nr V S N R st C j12 x8 x9 x10 t (j + 1) = Y at i2 ⊢
      obtain ⟨y8, y9, y10, yt⟩ := Y
      dsimp only at i2 ⊢
      unfold B_Lloads_43
      rw [hg, hf, of1_m]
      cases hgj : g 1 j with
      | none =>
        rw [if_pos (hcan.mpr (Or.inl hgj)), if_pos (show oI none < 0 by decide)]
        exact ⟨by show upd X.1 1 (nI j) 0 = pi 0; rw [upd_ne (by omega)]; exact i1, i2⟩
      | some k =>
        have hk40 := hb _ _ _ hgj
        rw [if_neg (show ¬ oI (some k) < 0 from nI_neg (by omega)), show oI (some k) = nI k from rfl, nI_add]
        by_cases hu : nI j12 - nI 1 = nI j
        · have e0 : ¬ nI j12 - nI 1 < 0 := by rw [hu]; exact nI_neg (by omega)
          rw [if_pos (hcan.mpr (Or.inr (hus.mpr hu))), if_neg e0, if_pos hu]
          exact ⟨by show upd X.1 1 (nI j) 0 = pi 0; rw [upd_ne (by omega)]; exact i1, i2⟩
        · have hnc : ¬ F_5canPick 1 ga (upd X.1 1 (nI j)) = 0 := fun q => by
            rcases hcan.mp q with q | q
            · rw [hgj] at q; cases q
            · exact hu (hus.mp q)
          have hk2 : L_5keepPicks_4 ga (upd X.1 1 (nI j)) 2 = nI (s + k) := by
            rw [kp_up (p := X.1) (pi := pi) (D := 1) (fun c hc => by rw [show c = 0 by omega]; exact i1), if_neg (nI_m1 (by omega)), cl_nI (by omega), hga _ _ (by omega) (by omega), hgj, hk]
            exact nI_add s k
          have hc := kr_c hga hb h2 h3 (pi := upd X.1 1 (nI j)) (be := X.2.1) (bm := X.2.2) (x8 := y8) (x9 := y9) (x10 := y10) ⟨i2.1, Or.inr i2⟩ (t := s + k) (by omega) hk2
          rw [upd_ne (by omega), upd_eq, i1, hp0] at hc
          have h1 := (sub1_at hga hb h2 h3 (upd X.1 1 (nI j)) X.2.1 X.2.2).1 0 (by omega)
          rw [if_neg hnc]
          refine ⟨h1.trans ((upd_ne (by omega)).trans i1), ?_⟩
          by_cases q : y8 < nI (s + k)
          · simp only [if_pos q, if_neg hu] at hc ⊢
            by_cases e0 : nI j12 - nI 1 < 0
            · simp only [if_pos e0]; exact hc
            · simp only [if_neg e0]; exact hc
          · simp only [if_neg q, if_neg hu] at hc ⊢
            by_cases e0 : nI j12 - nI 1 < 0
            · simp only [if_pos e0]; exact hc
            · simp only [if_neg e0]; exact hc
    · rw [show min (j + 1) nv + 1 = min j nv + 1 by omega, if_pos (hcan.mpr (Or.inl (hn j (by omega) (by omega))))]
      exact ⟨by show upd X.1 1 (nI j) 0 = pi 0; rw [upd_ne (by omega)]; exact i1, i2⟩
/-- the two loops -/
theorem out12 (hga : ∀ c v, c < 4 → v < 12 → ga (12 * c + v) = oI (g c v)) (hb : ∀ c v k, g c v = some k → k ≤ 40) (h2 : ∀ v, v < 12 → g 2 v = none) (h3 : ∀ v, v < 12 → g 3 v = none) (hn : ∀ c v, nv ≤ v → v < 12 → g c v = none) (h4 : nv ≤ 4) (hG : ∀ c v, c < 2 → v < nv → gVal nv nc nr m c V S N R st C (v + 1) = oI (g c v)) {pi be : Nat → Int32} {t : List (Nat × (Nat → Int32))} : ∀ j : Nat, j ≤ 12 → KR (rl ga 0 (sub0 ga) (upd pi 0 (-2), be, -1) j).2.1 (rl ga 0 (sub0 ga) (upd pi 0 (-2), be, -1) j).2.2 (L_Lloads_12 m nv nc nr t V S N R st C (min j nv + 1)).1 (L_Lloads_12 m nv nc nr t V S N R st C (min j nv + 1)).2.1 (L_Lloads_12 m nv nc nr t V S N R st C (min j nv + 1)).2.2.1
  | 0, _ => by
    rw [rl_0, show min 0 nv + 1 = 0 + 1 by omega]
    have g0 : gVal nv nc nr m 0 V S N R st C 0 = nI 0 := rfl
    have n0 : ¬ nI 0 < 0 := by decide
    have hi := in43 hga hb h2 h3 (hn 1) h4 (fun v hv => hG 1 v (by omega) hv) (j12 := 0) (s := 0) (by omega) (by omega) (pi := upd pi 0 (-1)) (be := be) (bm := -1) (x8 := -1) (x9 := -1) (x10 := -1) (t := t ++ gTail nv nc nr m 0 V S N R st C 0) (by rw [upd_eq, of1_0]) (by
      rw [kp_up (p := pi) (pi := pi) (D := 0) (fun _ _ => rfl), if_pos rfl, i_a0]; rfl) g0 ⟨rfl, Or.inl rfl⟩ 12 (by omega)
    rw [show min 12 nv + 1 = nv + 1 by omega] at hi
    have e1 : sub0 ga (upd pi 0 (-1), be, -1) = rl ga 1 (sub1 ga) (upd (upd pi 0 (-1)) 1 (-2), be, -1) 12 := dv_12
    rw [e1]
    show KR _ _ (B_Lloads_12 m nv nc nr V S N R st C 0 (-1) (-1) (-1) t).1 (B_Lloads_12 m nv nc nr V S N R st C 0 (-1) (-1) (-1) t).2.1 (B_Lloads_12 m nv nc nr V S N R st C 0 (-1) (-1) (-1) t).2.2.1
    unfold B_Lloads_12
    rw [g0, if_neg n0]
    exact hi.2
  | j + 1, hj => by
    have i2 := out12 hga hb h2 h3 hn h4 hG j (by omega) (t := t) (pi := pi) (be := be)
    rw [rl_s (show j < 12 by omega)]
    generalize rl ga 0 (sub0 ga) (upd pi 0 (-2), be, -1) j = X at i2
    have hcan := can_v hga hb (D := 0) (v := j) (by omega) (by omega) X.1
    by_cases hjn : j < nv
    · rw [show min (j + 1) nv + 1 = (j + 1) + 1 by omega]
      rw [show min j nv + 1 = j + 1 by omega] at i2
      have hg := hG 0 j (by omega) hjn
      show KR _ _ (B_Lloads_12 m nv nc nr V S N R st C (j + 1) (L_Lloads_12 m nv nc nr t V S N R st C (j + 1)).1 (L_Lloads_12 m nv nc nr t V S N R st C (j + 1)).2.1 (L_Lloads_12 m nv nc nr t V S N R st C (j + 1)).2.2.1 (L_Lloads_12 m nv nc nr t V S N R st C (j + 1)).2.2.2).1 (B_Lloads_12 m nv nc nr V S N R st C (j + 1) (L_Lloads_12 m nv nc nr t V S N R st C (j + 1)).1 (L_Lloads_12 m nv nc nr t V S N R st C (j + 1)).2.1 (L_Lloads_12 m nv nc nr t V S N R st C (j + 1)).2.2.1 (L_Lloads_12 m nv nc nr t V S N R st C (j + 1)).2.2.2).2.1 (B_Lloads_12 m nv nc nr V S N R st C (j + 1) (L_Lloads_12 m nv nc nr t V S N R st C (j + 1)).1 (L_Lloads_12 m nv nc nr t V S N R st C (j + 1)).2.1 (L_Lloads_12 m nv nc nr t V S N R st C (j + 1)).2.2.1 (L_Lloads_12 m nv nc nr t V S N R st C (j + 1)).2.2.2).2.2.1
      generalize L_Lloads_12 m nv nc nr t V S N R st C (j + 1) = Y at i2 ⊢
      obtain ⟨y8, y9, y10, yt⟩ := Y
      dsimp only at i2 ⊢
      unfold B_Lloads_12
      cases hgj : g 0 j with
      | none =>
        rw [hgj] at hg
        rw [if_pos (hcan.mpr (Or.inl hgj)), hg, if_pos (show oI none < 0 by decide)]
        exact i2
      | some k =>
        have hk40 := hb _ _ _ hgj
        rw [hgj, show oI (some k) = nI k from rfl] at hg
        have hnc : ¬ F_5canPick 0 ga (upd X.1 0 (nI j)) = 0 := fun q => by
          rcases hcan.mp q with q | q
          · rw [hgj] at q; cases q
          · cases q
        rw [if_neg hnc]
        have hi := in43 hga hb h2 h3 (hn 1) h4 (fun v hv => hG 1 v (by omega) hv) (j12 := j + 1) (s := k) (by omega) hk40 (pi := upd X.1 0 (nI j)) (be := X.2.1) (bm := X.2.2) (x8 := y8) (x9 := y9) (x10 := y10) (t := yt ++ gTail nv nc nr m 0 V S N R st C (j + 1)) (by rw [upd_eq, of1_m]) (by
          rw [kp_up (p := X.1) (pi := X.1) (D := 0) (fun _ _ => rfl), if_neg (nI_m1 (by omega)), cl_nI (by omega), hga _ _ (by omega) (by omega), hgj]
          show nI 0 + nI k = _
          rw [nI_add, Nat.zero_add]) hg ⟨i2.1, Or.inr i2⟩ 12 (by omega)
        rw [show min 12 nv + 1 = nv + 1 by omega] at hi
        have e1 : sub0 ga (upd X.1 0 (nI j), X.2) = rl ga 1 (sub1 ga) (upd (upd X.1 0 (nI j)) 1 (-2), X.2.1, X.2.2) 12 := dv_12
        rw [e1, hg, if_neg (nI_neg (by omega))]
        exact hi.2
    · rw [show min (j + 1) nv + 1 = min j nv + 1 by omega, if_pos (hcan.mpr (Or.inl (hn 0 j (by omega) (by omega))))]
      exact i2
end SRC
