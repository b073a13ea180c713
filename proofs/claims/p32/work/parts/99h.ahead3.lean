/-! WHAT WOULD BE: the minutes until all is done, the quickest carrier, the reason -/
section AH3
variable {V S N B R A O st C z : Nat → Int32} {T K : Nat → Nat → Int32} {nv nc nr ne m : Nat}
theorem nI_neg {a : Nat} (h : a < 2147483648) : ¬ nI a < 0 := by
  rw [Int32.lt_iff_toInt_lt, nI_toInt h, show (0 : Int32).toInt = 0 from rfl]
  omega
theorem nI_ps {a : Nat} (h : a < 2147483648) : 0 < nI a ↔ 0 < a := by
  rw [Int32.lt_iff_toInt_lt, nI_toInt h, show (0 : Int32).toInt = 0 from rfl]
  omega
theorem nI_np {a : Nat} (h : a < 2147483648) : nI a ≤ 0 ↔ a = 0 := by
  rw [Int32.le_iff_toInt_le, nI_toInt h, show (0 : Int32).toInt = 0 from rfl]
  omega
theorem id_al {c v : Nat} (h : vo z (nI c) nv = some v) (hl : lv z v ≤ 40) : idZ z nv c = 0 ↔ ¬ 0 < z (11 + 7 * v + 6) ∧ alive (z (95 + 4 * c + 1)) (lv z v) (gZ z c v) := by
  unfold idZ
  rw [h]
  dsimp only
  have e : gZ z c v 2 = z (11 + 7 * v + 3) := rfl
  unfold alive
  rw [nlO_nlr (c := c) hl, e]
  by_cases h1 : 0 < z (11 + 7 * v + 6)
  · rw [if_pos h1]
    exact ⟨fun q => absurd q (by decide), fun q => absurd h1 q.1⟩
  · rw [if_neg h1]
    by_cases h2 : z (95 + 4 * c + 1) < z (11 + 7 * v + 3)
    · rw [if_pos h2]
      exact ⟨fun q => absurd q (by decide), fun q => absurd h2 q.2.2⟩
    · rw [if_neg h2]
      by_cases h3 : nlr (gZ z c v) (lv z v) = none
      · rw [if_pos h3]
        exact ⟨fun q => absurd q (by decide), fun q => absurd h3 q.2.1⟩
      · rw [if_neg h3]
        exact ⟨fun _ => ⟨h1, h3, h2⟩, fun _ => rfl⟩
theorem mn_al (w : WZ z nv nc nr ne) (t : Nat) {c v a : Nat} (hc : c < nc) (hcv : vo z (nI c) nv = some v) (ha : a < 1000) (ea : z (11 + 7 * v + 6) = nI a) : vo (mnN nv nc nr z t) (nI c) nv = some v ∧ lv (mnN nv nc nr z t) v = lv z v ∧ mnN nv nc nr z t (11 + 7 * v + 6) = nI (a - t) ∧ (alive (mnN nv nc nr z t (95 + 4 * c + 1)) (lv (mnN nv nc nr z t) v) (gZ (mnN nv nc nr z t) c v) ↔ alive (z (95 + 4 * c + 1)) (lv z v) (it (z 7) (z 8) (z 9) (z (95 + 4 * c + 1)) (lv z v) (gZ z c v) (t - a))) := by
  have h12 := w.nv.2
  have h4 := w.nc.2
  have h3 := w.nr.2
  have hM := w.MN t
  have fr : ∀ {i : Nat}, (∀ c v, c < 4 → v < 12 → ¬ AC1 c v i) → (∀ r, r < 3 → i ≠ 111 + 4 * r + 1) → (∀ v, v < 12 → i ≠ 11 + 7 * v + 6) → i ≠ 3 → mnN nv nc nr z t i = z i := fun h1 h2 h5 h6 => hM.fr h12 h4 h3 h1 h2 h5 h6
  have hvn := vo_lt hcv
  have hvo : vo (mnN nv nc nr z t) (nI c) nv = vo z (nI c) nv := vo_congr nv fun q hq => fr (fun c v hc hv => by unfold AC1; omega) (by omega) (by omega) (by omega)
  have el : lv (mnN nv nc nr z t) v = lv z v := by
    unfold lv
    rw [fr (fun c v hc hv => by unfold AC1; omega) (by omega) (by omega) (by omega)]
  refine ⟨hvo.trans hcv, el, hM.2.2.1 v a hvn ha ea, ?_⟩
  rw [el, hM.1 c v a hc hcv ha ea, fr (i := 95 + 4 * c + 1) (fun c v hc hv => by unfold AC1; omega) (by omega) (by omega) (by omega)]
theorem mn_vo (w : WZ z nv nc nr ne) (t : Nat) (x : Int32) : vo (mnN nv nc nr z t) x nv = vo z x nv := by
  have h12 := w.nv.2
  have h4 := w.nc.2
  have h3 := w.nr.2
  exact vo_congr nv fun q hq => (w.MN t).fr h12 h4 h3 (fun c v hc hv => by unfold AC1; omega) (by omega) (by omega) (by omega)
/-- the minute after the last one in which a cradle works -/
theorem done_D (h : RT T z nv nc) (w : WZ z nv nc nr ne) (q : LC V S N R st z nv nc) : ∃ D : Nat, D ≤ 1000 ∧ F_4doneIn nc T = nI D ∧ (∀ j, WK (mnN nv nc nr z j) nv nc → j < D) ∧ ∀ j, j + 1 = D → WK (mnN nv nc nr z j) nv nc := by
  obtain ⟨-, D, hD, e1, h2⟩ := mUD h w nc (Nat.le_refl _)
  have h12 := w.nv.2
  have hl : ∀ v, v < nv → lv z v ≤ 40 := fun v hv => (w.lv v hv).2
  refine ⟨D, ?_, ?_, fun j hj => ?_, fun j hj => ?_⟩
  · by_cases e : D ≤ 1000
    · exact e
    · obtain ⟨c, v, a, hc, hcv, ha, ea, hq⟩ := (h2 1000).mp (by omega)
      have hvn := vo_lt hcv
      obtain ⟨a', ha', ea'⟩ := (w.vol v hvn).2.2.2.2
      have : a = a' := (nI_eq (by omega) (by omega)).mp (ea.symm.trans ea')
      obtain ⟨s0, -, hs0, es0⟩ := w.s0
      obtain ⟨s1, hs1, es1⟩ := w.s1
      obtain ⟨s2, -, hs2, es2⟩ := w.s2
      obtain ⟨g, hg, eg⟩ := (w.cra c hc).1
      rw [es0, es1, es2, eg] at hq
      exact absurd hq (dead_by hs0 hs1 hs2 hg (q.l8 v hvn) (w.RB hc hvn).1 (by omega))
  · unfold F_4doneIn F_0minutesUntilDone
    rw [e1, if_pos (nI_le (by omega) (by omega))]
  · obtain ⟨c, hc, hz⟩ := hj
    obtain ⟨v, k, hv, hk⟩ := id_0 hz
    rw [mn_vo w] at hv
    have hvn := vo_lt hv
    obtain ⟨a, ha, ea⟩ := (w.vol v hvn).2.2.2.2
    obtain ⟨m1, m2, m3, m4⟩ := mn_al w j hc hv (by omega) ea
    exact (h2 j).mpr ⟨c, v, a, hc, hv, by omega, ea, m4.mp ((id_al m1 (by rw [m2]; exact hl v hvn)).mp hz).2⟩
  · obtain ⟨c, v, a, hc, hcv, ha, ea, hq⟩ := (h2 j).mp (by omega)
    have hvn := vo_lt hcv
    have hn : ¬ (a ≠ 0 ∧ j < a) := by
      rintro ⟨h5, h6⟩
      have : j + 1 < D := (h2 (j + 1)).mpr ⟨c, v, a, hc, hcv, ha, ea, by rw [show j + 1 - a = j - a by omega]; exact hq⟩
      omega
    obtain ⟨m1, m2, m3, m4⟩ := mn_al w j hc hcv ha ea
    refine ⟨c, hc, (id_al m1 (by rw [m2]; exact hl v hvn)).mpr ⟨?_, m4.mpr hq⟩⟩
    rw [m3, nI_ps (by omega)]
    omega
theorem quick_eq (w : WZ z nv nc nr ne) (q : LC V S N R st z nv nc) (hA : ∀ r w, r < 2 → w < 4 → A (4 * r + w) = z (111 + 4 * r + w)) (h2 : nr ≤ 2) {v : Nat} (hv : v < nv) : L_5quickestNow_4 v z nr = L_Lahead_302 nr V A st v nr := by
  have h4 := q.n4
  have hw : ∀ r, r < 2 → F_Lway v r V A st = wayZ z v r := fun r hr => by
    obtain ⟨p, hp', ep⟩ := (w.vol v hv).1
    obtain ⟨q', hq', eq'⟩ := (w.car r (by omega)).1
    exact way_eq q (by omega) (hA r 0 hr (by omega)) hp' hq' ep eq'
  have a0 : A (4 * 0 + 1) = z (111 + 4 * 0 + 1) := hA 0 1 (by omega) (by omega)
  have a1 : A (4 * 1 + 1) = z (111 + 4 * 1 + 1) := hA 1 1 (by omega) (by omega)
  have n1 : ¬ nI 1 < 0 := by decide
  have n0 : ¬ nI 0 < 0 := by decide
  have k0 : (nI 0).toNatClampNeg = 0 := by decide
  have k1 : (nI 1).toNatClampNeg = 1 := by decide
  have m0 : ¬ nI 0 = -1 := by decide
  have lt1 : (-1 : Int32) < 0 := by decide
  match nr, h2 with
  | 0, _ => rfl
  | 1, _ =>
    show B_5quickestNow_4 v z 0 (-1) = B_Lahead_302 1 V A st v 0 (-1)
    unfold B_5quickestNow_4 B_Lahead_302
    rw [show 1 - (0 + 1) = 0 from rfl, a0, if_pos lt1, if_pos rfl]
  | 2, _ =>
    show B_5quickestNow_4 v z 1 (B_5quickestNow_4 v z 0 (-1)) = B_Lahead_302 2 V A st v 1 (B_Lahead_302 2 V A st v 0 (-1))
    unfold B_5quickestNow_4 B_Lahead_302
    rw [show 2 - (0 + 1) = 1 from rfl, show 2 - (1 + 1) = 0 from rfl, a0, a1, if_pos lt1, if_pos rfl, hw 0 (by omega)]
    by_cases e0 : z (111 + 4 * 0 + 1) = 0
    · rw [if_pos e0, if_pos e0, if_neg m0, k0]
      by_cases e1 : z (111 + 4 * 1 + 1) = 0
      · rw [if_pos e1, if_pos e1, if_neg n1, k1, hw 1 (by omega)]
        by_cases e2 : wayZ z v 0 ≤ wayZ z v 1
        · rw [if_pos e2, if_neg (Int32.not_lt.mpr e2)]
        · rw [if_neg e2, if_pos (Int32.not_le.mp e2)]
      · rw [if_neg e1, if_neg e1, if_pos lt1]
    · rw [if_neg e0, if_neg e0, if_pos rfl]
  | k + 3, h => omega
theorem why_eq (w : WZ z nv nc nr ne) (q : LC V S N R st z nv nc) (hA : ∀ r w, r < 2 → w < 4 → A (4 * r + w) = z (111 + 4 * r + w)) (h2 : nr ≤ 2) (he : ne ≤ 12) {v k e : Nat} (hv : v < nv) (hk : k < nc) (hr : e < nr) : F_Lwhy v k e nv V S R A = rsZ z nv ne v k e := by
  have h4 := q.n4
  have hn2 := q.n2
  have hc4 := w.nc.2
  unfold F_Lwhy rsZ
  obtain ⟨p, hp', ep⟩ := (w.vol v hv).2.2.2.1
  obtain ⟨a, ha, ea⟩ := (w.vol v hv).2.2.2.2
  have b1 : V (7 * v + 1) = z (11 + 7 * v + 1) := q.vol v 1 (by omega) (by omega) (by omega)
  have b3 : V (7 * v + 3) = z (11 + 7 * v + 3) := q.vol v 3 (by omega) (by omega) (by omega)
  have b6 : V (7 * v + 6) = z (11 + 7 * v + 6) := q.vol v 6 (by omega) (by omega) (by omega)
  have r0 : R (4 * k) = z (95 + 4 * k + 0) := q.cra k 0 (by omega) (by omega)
  have r1 : R (4 * k + 1) = z (95 + 4 * k + 1) := q.cra k 1 (by omega) (by omega)
  have a1 : A (4 * e + 1) = z (111 + 4 * e + 1) := hA e 1 (by omega) (by omega)
  have h60 : ¬ ne = 60 := by omega
  have lp : V (7 * v + 5) < 0 ↔ ¬ 0 < z (11 + 7 * v + 5) := by
    rw [q.pl v hv, ep, nI_ps (by omega)]
    rcases Nat.eq_zero_or_pos p with e | e
    · subst e; exact ⟨fun _ => by omega, fun _ => by decide⟩
    · rw [pk_sub (by omega)]
      exact ⟨fun x => absurd x (nI_neg (by omega)), fun x => absurd e x⟩
  have le0 : ∀ x : Int32, x ≤ 0 ↔ ¬ 0 < x := fun x => Int32.not_lt.symm
  have on : oI (onL V (nI k) nv) < 0 ↔ ¬ vo z (nI k) nv ≠ none := by
    rw [on_eq q w.pu (by omega), ← oI_0 (o := vo z (nI k) nv) (fun q hq => by have := vo_lt hq; omega)]
    exact Int32.not_le.symm
  have nx : 0 ≤ oI (nxL V S v) ↔ ¬ nlO z v (lv z v) = none := by
    rw [nx_eq q hv, oI_0 (fun q hq => by have := nlB_lt hq; have := (w.lv v hv).2; omega)]
  have le1 : ∀ x y : Int32, x ≤ y ↔ ¬ y < x := fun x y => Int32.not_lt.symm
  rw [b1, b3, b6, r0, r1, a1, if_neg h60]
  by_cases c1 : 0 < z (11 + 7 * v + 5)
  · rw [if_neg (fun x => lp.mp x c1), if_pos c1]
  rw [if_pos (lp.mpr c1), if_neg c1]
  by_cases c2 : 0 < z (11 + 7 * v + 6)
  · rw [if_neg (fun x => (le0 _).mp x c2), if_pos c2]
  rw [if_pos ((le0 _).mpr c2), if_neg c2]
  by_cases c3 : vo z (nI k) nv ≠ none
  · rw [if_neg (fun x => on.mp x c3), if_pos c3]
  rw [if_pos (on.mpr c3), if_neg c3]
  by_cases c4 : z (95 + 4 * k + 0) < z (11 + 7 * v + 1)
  · rw [if_neg (fun x => (le1 _ _).mp x c4), if_pos c4]
  rw [if_pos ((le1 _ _).mpr c4), if_neg c4]
  by_cases c5 : z (95 + 4 * k + 1) < z (11 + 7 * v + 3)
  · rw [if_neg (fun x => (le1 _ _).mp x c5), if_pos c5]
  rw [if_pos ((le1 _ _).mpr c5), if_neg c5]
  by_cases c6 : nlO z v (lv z v) = none
  · rw [if_neg (fun x => nx.mp x c6), if_pos c6]
  rw [if_pos (nx.mpr c6), if_neg c6]
  by_cases c7 : 0 < z (111 + 4 * e + 1)
  · rw [if_neg (fun x => (le0 _).mp x c7), if_pos c7]
  · rw [if_pos ((le0 _).mpr c7), if_neg c7]
theorem sc_s (w : WZ z nv nc nr ne) (q : LC V S N R st z nv nc) {R' : Nat → Int32} {m : Nat} (hR : ∀ c i, c < 2 → i < 4 → R' (4 * c + i) = mnN nv nc nr z m (95 + 4 * c + i)) : F_Lscanned R' = SC (mnN nv nc nr z m) nc := by
  have h2 := q.n2
  have w' := WZ_mnN w m
  unfold F_Lscanned
  rw [show R' 3 = mnN nv nc nr z m (95 + 4 * 0 + 3) from hR 0 3 (by omega) (by omega), show R' 7 = mnN nv nc nr z m (95 + 4 * 1 + 3) from hR 1 3 (by omega) (by omega)]
  generalize mnN nv nc nr z m = z' at w' ⊢
  have e : ∀ c, nc ≤ c → c < 2 → z' (95 + 4 * c + 3) = 0 := fun c h1 h2 => w'.cra0 c 3 h1 (by omega) (by omega)
  match nc, h2, e with
  | 0, _, e => rw [e 0 (by omega) (by omega), e 1 (by omega) (by omega)]; rfl
  | 1, _, e => rw [e 1 (by omega) (by omega)]; show _ = (0 : Int32) + _; rw [Int32.add_zero, Int32.zero_add]
  | 2, _, _ => show _ = (0 : Int32) + _ + _; rw [Int32.zero_add]
  | k + 3, h, _ => omega
theorem sOn_4 (h : RT T z nv nc) (w : WZ z nv nc nr ne) {c : Nat} (hc : c < nc) {m : Nat} (hm : m < 10000) : F_4ifPassedD (nI m) c T = mnN nv nc nr z m (95 + 4 * c + 3) - z (95 + 4 * c + 3) := sOn h w hc hm
theorem sIn_4 (h : RT T z nv nc) (w : WZ z nv nc nr ne) {m : Nat} (hm : m < 10000) : F_4ifPassedE (nI m) nc T = SC (mnN nv nc nr z m) nc - SC z nc := (sIn h w hm nc (Nat.le_refl _)).2
/-- what would be, but for the loads -/
theorem ahead_ct {E : AE} (d x : Nat) {m2 : Nat} {hE : AH} {mcL msL : Nat} {o0 u0 : List AC} {os sc : Int32} {tc tp : Nat → Int32} {tl_ tn trd tv tdg tf tla : Int32} {pg ph pc : Nat → Int32} {pm : Int32} (h : RT T z nv nc) (w : WZ z nv nc nr ne) (q : LZ V S N B R A O st C z nv nc nr ne) (hex : E.ex = true) (hcl : E.caps.length = 5) (hxx : x < 2147483648) (hm : 1 + x / 2 % 60 = m) (hm2 : 1 + x / 2 ^ 7 / 2 % 100 = m2)
    (hld : CT E M_L_loads (d + 9) [.ref 4096, .int (nI (m2)), .ref 16384, .ref 16385, .ref 16386, .ref 16388, .ref 16391, .ref 16392] (hp o0 (ar (F_4doneIn_T nc (LA nv nc nr m T V S N R A st C 1000).2.2.2.2.2.2.2) K os sc) (te_ tc tp tl_ tn trd tv tdg tf tla) (pl pg ph pc pm) (la_ V S N B R A O st C) u0 (xs_ (co_ (LA nv nc nr m T V S N R A st C 1000).2.1 (LA nv nc nr m T V S N R A st C 1000).2.2.1 (LA nv nc nr m T V S N R A st C 1000).2.2.2.1 (LA nv nc nr m T V S N R A st C 1000).2.2.2.2.1 (LA nv nc nr m T V S N R A st C 1000).2.2.2.2.2.1 (LA nv nc nr m T V S N R A st C 1000).2.2.2.2.2.2.1))) (.inl (some (.int (nI 1)))) hE mcL msL) :
    CT E M_L_ahead (d + 10) [.ref 4096, .int (nI (x)), .ref 16384, .ref 16385, .ref 16386, .ref 16388, .ref 16389, .ref 16391, .ref 16392] (hp o0 (ar T K os sc) (te_ tc tp tl_ tn trd tv tdg tf tla) (pl pg ph pc pm) (la_ V S N B R A O st C) u0 []) (.inl (some (.int (nI (1))))) hE (mcL + 6) (msL + 115) := by
  have hm6 : m < 10000 := by omega
  have h4 := q.1.n4; have hn2 := q.1.n2; have hr2 := q.r2; have h12 := q.e12
  have hnv := w.nv.2; have hnc := w.nc.2
  have inv := la_inv (A := A) (C := C) h w q.1 hm6
  have rt : ∀ j, RT (LA nv nc nr m T V S N R A st C j).2.2.2.2.2.2.2 z nv nc := fun j => (inv j).2.2.rt h hnv hnc
  have rtE : ∀ j, RT (F_4ifPassedE_T (nI m) nc (LA nv nc nr m T V S N R A st C j).2.2.2.2.2.2.2) z nv nc := fun j => (TRF_sInT (rt j) w hm6).rt (rt j) hnv hnc
  have rtL : ∀ j i, i ≤ nc → RT (L_Lahead_215 m (F_4ifPassedE_T (nI m) nc (LA nv nc nr m T V S N R A st C j).2.2.2.2.2.2.2) i) z nv nc := fun j i hi => (TRF_215 (rtE j) w i hi).rt (rtE j) hnv hnc
  have rtD : RT (F_4doneIn_T nc (LA nv nc nr m T V S N R A st C 1000).2.2.2.2.2.2.2) z nv nc := TRF.rt (TRF_done (rt 1000) w) (rt 1000) hnv hnc
  have hcc := q.cc
  have cr2 := la_cr (A := A) (C := C) h w q.1 hm6
  have e2 : (1 + (1000 - 1)) = 1000 := rfl
  refine s_Lahead d x (ne := ne) (TI_RT h w) hex hcl hxx ((hcc 0 (by omega)).trans w.nv.1) h4 ((hcc 1 (by omega)).trans w.nc.1) hn2 ((hcc 2 (by omega)).trans w.nr.1) hr2 ((hcc 5 (by omega)).trans w.ne.1) h12 (q.1.hL w.lv) hm hm2 (fun j _ => TI_RT (rt j) w) (fun j i _ _ hi => TI_RT (rtL j i hi) w) (TI_RT rtD w) (fun j hj ej => ?_) (fun j i hj ej hi => ?_) ?_ (fun v hv => ?_) (fun v k e hv hk he => ?_) hld
  · have ej' : j + 1 = m := by omega
    have hs := sc_s (w := w) (q := q.1) (m := m) (R' := F_Lminute_cr nv nc (LA nv nc nr m T V S N R A st C j).2.1 (LA nv nc nr m T V S N R A st C j).2.2.1 (LA nv nc nr m T V S N R A st C j).2.2.2.1 (LA nv nc nr m T V S N R A st C j).2.2.2.2.1 st) (fun c i hc hi => (cr2 j c i hc hi).trans (by rw [ej']))
    rw [sIn_4 (rt j) w hm6, sc_2 (z := z) w q.1 q.1.cra, hs]
  · have ej' : j + 1 = m := by omega
    rw [sOn_4 (rtL j i (by omega)) w hi hm6, cr2 j i 3 (by omega) (by omega), ej', q.1.cra i 3 (by omega) (by omega)]
  · obtain ⟨D, hD, e1, hh1, hh2⟩ := done_D (rt 1000) w q.1
    obtain ⟨k, -, k2, k3⟩ := la_last (A := A) (C := C) h w q.1 hm6 hh1 hh2 1000 (by omega)
    rw [e1]
    show nI D = (LA nv nc nr m T V S N R A st C 1000).1
    rw [k2, k3 hD]
  · exact ((e_quick rtD (by omega) nr (by omega)).1).trans (quick_eq w q.1 q.ca hr2 hv)
  · exact (e_reason rtD w hv hk (by omega)).trans (why_eq w q.1 q.ca hr2 h12 hv hk he).symm
end AH3
