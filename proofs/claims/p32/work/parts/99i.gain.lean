/-! LOADS: what a cradle would gain with a volume, in the law's arrays and in the reference -/
section GA
variable {V S N R st C z : Nat → Int32} {nv nc nr ne m : Nat}
theorem LC.updP (h : LC V S N R st z nv nc) {v : Nat} {x y : Int32} (hv : v < 4) (e : x = y - nI 1) : LC (upd V (7 * v + 5) x) S N R st (upd z (11 + 7 * v + 5) y) nv nc := by
  subst e
  obtain ⟨h1, h2, h3, h4, h5, h6, h7, h8, h9⟩ := h
  refine ⟨fun k hk => ?_, fun v' u hv' hu h0 => ?_, fun v' hv' => ?_, fun v' k' hv' hk' => ?_, fun v' k' hv' hk' => ?_, fun c' w' hc' hw' => ?_, fun v' hv' => ?_, h8, h9⟩
  · rw [upd_ne (by omega)]; exact h1 _ hk
  · rw [upd_ne (by omega), upd_ne (by omega)]; exact h2 v' u hv' hu h0
  · by_cases q : v' = v
    · subst q; rw [upd_eq, upd_eq]
    · rw [upd_ne (by omega), upd_ne (by omega)]; exact h3 v' hv'
  · rw [upd_ne (by omega)]; exact h4 v' k' hv' hk'
  · rw [upd_ne (by omega)]; exact h5 v' k' hv' hk'
  · rw [upd_ne (by omega)]; exact h6 c' w' hc' hw'
  · unfold lv; rw [upd_ne (by omega)]; exact h7 v' hv'
theorem vo_one {x : Int32} {v : Nat} : ∀ n : Nat, v < n → z (11 + 7 * v + 5) - nI 1 = x → (∀ q, q < n → q ≠ v → ¬ z (11 + 7 * q + 5) - nI 1 = x) → vo z x n = some v
  | 0, h, _, _ => by omega
  | n + 1, h, e, hn => by
    unfold vo
    by_cases q : v = n
    · subst q; rw [if_pos e]
    · rw [if_neg (hn n (by omega) (fun e => q e.symm))]
      exact vo_one n (by omega) e (fun q hq hne => hn q (by omega) hne)
/-- a volume put at once on a cradle, its way one minute -/
def zGa (k v : Nat) (z : Nat → Int32) : Nat → Int32 := upd (upd (upd z (11 + 7 * v + 5) (nI (k + 1))) (11 + 7 * v + 6) (nI 1)) (95 + 4 * k + 2) (nI 0)
theorem lc_mnN {V' S' N' R' z' : Nat → Int32} (hV : LC V' S' N' R' st z' nv nc) (hZ : ZI z' nv nc nr ne) (hu : PU z' nv) {k v : Nat} {vo ls ln cr cc : Nat → Int32} (e : (L_Lgain_188 k v nv nc nr vo ls ln cr st cc 0).1 = V' ∧ (L_Lgain_188 k v nv nc nr vo ls ln cr st cc 0).2.1 = S' ∧ (L_Lgain_188 k v nv nc nr vo ls ln cr st cc 0).2.2.1 = N' ∧ (L_Lgain_188 k v nv nc nr vo ls ln cr st cc 0).2.2.2.1 = R') : ∀ j : Nat, LC (L_Lgain_188 k v nv nc nr vo ls ln cr st cc j).1 (L_Lgain_188 k v nv nc nr vo ls ln cr st cc j).2.1 (L_Lgain_188 k v nv nc nr vo ls ln cr st cc j).2.2.1 (L_Lgain_188 k v nv nc nr vo ls ln cr st cc j).2.2.2.1 st (mnN nv nc nr z' j) nv nc ∧ PU (mnN nv nc nr z' j) nv
  | 0 => by
    obtain ⟨e1, e2, e3, e4⟩ := e
    rw [e1, e2, e3, e4]
    exact ⟨hV, hu⟩
  | j + 1 => by
    obtain ⟨i1, i2⟩ := lc_mnN hV hZ hu e j
    have hmn := lm_minute i1 (ZI_mnN hZ j) i2
    exact ⟨hmn.1, hmn.2.1⟩
theorem Gr_val (w : WZ z nv nc nr ne) {c v : Nat} (hc : c < nc) (hv : v < nv) (hy : F_5mayHave c v nv z = nI 1) (q5 : vo z (nI c) nv = none) : ∃ k : Nat, k ≤ 40 ∧ (it (z 7) (z 8) (z 9) (z (95 + 4 * c + 1)) (lv z v) (gZ z c v) (m - 1)) 1 - gZ z c v 1 = nI k ∧ Gr m nv nc z c v = nI k := by
  have hl := (w.lv v hv).2
  have hp := w.RB (c := c) (v := v) hc hv
  obtain ⟨k, k1, k2⟩ := it_cnt (s0 := z 7) (s1 := z 8) (s2 := z 9) (g := z (95 + 4 * c + 1)) (n := lv z v) (gZ z c v) (m - 1)
  have h40 := cnt_le (gZ z c v) (lv z v)
  have hk : (it (z 7) (z 8) (z 9) (z (95 + 4 * c + 1)) (lv z v) (gZ z c v) (m - 1)) 1 - gZ z c v 1 = nI k := by
    rw [k2, Int32.add_comm, Int32.add_sub_cancel]
  refine ⟨k, by omega, hk, ?_⟩
  have n1 : ¬ nI 1 = (0 : Int32) := by decide
  unfold Gr B_5layGains_9
  rw [if_neg (show ¬ nc ≤ c by omega), if_neg (show ¬ nv ≤ v by omega), hy, if_neg n1, upd_eq]
  obtain ⟨b, b1, b2⟩ := cnt_with (z := z) (c := c) (v := v) (lv z v) hl
  obtain ⟨s0, hs01, hs0, es0⟩ := w.s0
  obtain ⟨s1, hs1, es1⟩ := w.s1
  obtain ⟨s2, hs21, hs2, es2⟩ := w.s2
  obtain ⟨g, hg, eg⟩ := (w.cra c (by omega)).1
  have ew := (w.cra c (by omega)).2.2 q5
  have hs := sof (n := lv z v) es0 es1 es2 eg (by omega) hs1 hs2 hg hl (m - 1) 0 (gZ z c v) (nI 0) hp
  rw [← es0, ← es1, ← es2, ← eg, hk, nI_add, Nat.zero_add] at hs
  rw [b1, pk_sub (show b ≤ lv z v by omega), show lv z v - b = cnt (gZ z c v) (lv z v) by omega]
  have e2 : gZ z c v 0 = nI 0 := ew
  rw [e2] at hs
  exact hs
theorem gain_eq (w : WZ z nv nc nr ne) (q : LC V S N R st z nv nc) {c v : Nat} (hc2 : c < 2) (hv : v < nv) : gVal nv nc nr m c V S N R st C (v + 1) = oI (toO (Gr m nv nc z c v)) := by
  have h4 := q.n4
  have hn2 := q.n2
  have h12 := w.nv.2
  have hc4 := w.nc.2
  have m1 : (-1 : Int32) = oI (toO (-1)) := rfl
  obtain ⟨p, hp', ep⟩ := (w.vol v hv).2.2.2.1
  obtain ⟨a, ha, ea⟩ := (w.vol v hv).2.2.2.2
  rw [gVal]
  by_cases hc : c < nc
  · have b1 : V (7 * v + 1) = z (11 + 7 * v + 1) := q.vol v 1 (by omega) (by omega) (by omega)
    have b3 : V (7 * v + 3) = z (11 + 7 * v + 3) := q.vol v 3 (by omega) (by omega) (by omega)
    have b6 : V (7 * v + 6) = z (11 + 7 * v + 6) := q.vol v 6 (by omega) (by omega) (by omega)
    have r0 : R (4 * c) = z (95 + 4 * c + 0) := q.cra c 0 (by omega) (by omega)
    have r1 : R (4 * c + 1) = z (95 + 4 * c + 1) := q.cra c 1 (by omega) (by omega)
    have t1 : ¬ 0 ≤ oI (onL V (nI c) nv) ↔ oI (vo z (nI c) nv) = -1 := by
      rw [on_eq q w.pu (by omega), oI_0 (o := vo z (nI c) nv) (fun q hq => by have := vo_lt hq; omega), vo_m1 h12]
      exact Classical.not_not
    have t2 : ¬ 0 ≤ V (7 * v + 5) ↔ z (11 + 7 * v + 5) = 0 := by
      rw [q.pl v hv, ep, eq0_nI (by omega)]
      rcases Nat.eq_zero_or_pos p with e | e
      · subst e; exact ⟨fun _ => rfl, fun _ => by decide⟩
      · rw [pk_sub (by omega)]
        exact ⟨fun x => absurd (Int32.not_lt.mp (nI_neg (a := p - 1) (by omega))) x, fun x => by omega⟩
    have t3 : ¬ 0 < V (7 * v + 6) ↔ z (11 + 7 * v + 6) = 0 := by
      rw [b6, ea, nI_ps (by omega), eq0_nI (by omega)]
      omega
    have hgk : gok nv nc c v V R ↔ F_5mayHave c v nv z = nI 1 := by
      unfold gok
      rw [b1, b3, r0, r1, t1, t2, t3]
      have n1 : ¬ nI 1 = (0 : Int32) := by decide
      rcases mayHave_iff (z := z) (nv := nv) (c := c) (v := v) with ⟨e1, q1, q2, q3, q4, q5⟩ | ⟨e0, q0⟩
      · exact ⟨fun _ => e1, fun _ => ⟨hc, q5, q1, q2, q3, Int32.not_lt.mp q4⟩⟩
      · rw [e0]
        exact ⟨fun ⟨_, x5, x1, x2, x3, x4⟩ => absurd ⟨x1, x2, x3, Int32.not_lt.mpr x4, x5⟩ q0, fun e => absurd e.symm n1⟩
    by_cases hg : gok nv nc c v V R
    · have hy := hgk.mp hg
      have q5 : vo z (nI c) nv = none := by
        have := hg.2.1
        exact (vo_m1 h12).mp (t1.mp this)
      rw [if_pos hg]
      obtain ⟨k, hk40, hk, hG⟩ := Gr_val (m := m) w hc hv hy q5
      rw [hG, show toO (nI k) = some k by rw [show nI k = oI (some k) from rfl, toO_oI (fun k' e => by cases e; omega)], show oI (some k) = nI k from rfl, ← hk]
      have hno := vo_no nv q5
      have hpz : ∀ u, u < nv → zGa c v z (11 + 7 * u + 5) = if u = v then nI (c + 1) else z (11 + 7 * u + 5) := fun u hu => by
        unfold zGa
        rw [upd_ne (by omega), upd_ne (by omega)]
        by_cases e : u = v
        · subst e; rw [upd_eq, if_pos rfl]
        · rw [upd_ne (by omega), if_neg e]
      have hPU : PU (zGa c v z) nv := by
        intro u u' hu hu' h1 h2
        rw [hpz u hu] at h1 h2
        rw [hpz u' hu'] at h1
        by_cases e : u = v
        · by_cases e' : u' = v
          · omega
          · rw [if_pos e, if_neg e'] at h1
            exact absurd (by rw [← h1, nI_p1]) (hno u' hu')
        · rw [if_neg e] at h1 h2
          by_cases e' : u' = v
          · rw [if_pos e'] at h1
            exact absurd (by rw [h1, nI_p1]) (hno u hu)
          · rw [if_neg e'] at h1
            exact w.pu u u' hu hu' h1 h2
      have hZI : ZI (zGa c v z) nv nc nr ne := ZI_upd ⟨by omega, by omega, by omega, by omega, fun u hu => by omega⟩ (ZI_upd ⟨by omega, by omega, by omega, by omega, fun u hu => by omega⟩ (ZI_upd ⟨by omega, by omega, by omega, by omega, fun u hu => by omega⟩ w.zi))
      have hLC : LC (upd (upd (F_LsameV_vo V (fun _ => 0)) (7 * v + 5) (nI c)) (7 * v + 6) (nI 1)) (F_LsameS_ls S (fun _ => 0)) (F_LsameN_ln N (fun _ => 0)) (upd (F_LsameR_cr R (fun _ => 0)) (4 * c + 2) (nI 0)) st (zGa c v z) nv nc :=
        LC.updR (LC.updV (LC.updP q.same (by omega) (show nI c = nI (c + 1) - nI 1 from (nI_p1 c).symm)) (by omega) (by omega) (by omega) (by omega) rfl) hc2 (by omega) rfl
      obtain ⟨hm, -⟩ := lc_mnN (st := st) (nr := nr) (ne := ne) hLC hZI hPU (k := c) (v := v) (vo := V) (ls := S) (ln := N) (cr := R) (cc := C) ⟨rfl, rfl, rfl, rfl⟩ m
      rw [q.cra c 3 (by omega) (by omega)]
      unfold gFin
      rw [hm.cra c 3 (by omega) (by omega)]
      have hvo : vo (zGa c v z) (nI c) nv = some v := vo_one nv hv (by rw [hpz v hv, if_pos rfl, nI_p1]) (fun u hu e => by rw [hpz u hu, if_neg e]; exact hno u hu)
      have hway : ∀ u, u < nv → zGa c v z (11 + 7 * u + 6) = if u = v then nI 1 else z (11 + 7 * u + 6) := fun u hu => by
        unfold zGa
        rw [upd_ne (by omega)]
        by_cases e : u = v
        · subst e; rw [upd_eq, if_pos rfl]
        · rw [upd_ne (by omega), upd_ne (by omega), if_neg e]
      have fr : ∀ i, i ≠ 11 + 7 * v + 5 → i ≠ 11 + 7 * v + 6 → i ≠ 95 + 4 * c + 2 → zGa c v z i = z i := fun i h1 h2 h3 => by
        unfold zGa
        rw [upd_ne h3, upd_ne h2, upd_ne h1]
      have hM : MN (zGa c v z) (mnN nv nc nr (zGa c v z) m) nv nc nr m := MN_mn hZI (fun u hu => by
        rw [hway u hu]
        by_cases e : u = v
        · rw [if_pos e]; exact ⟨1, by omega, rfl⟩
        · rw [if_neg e]
          obtain ⟨a, ha, e⟩ := (w.vol u hu).2.2.2.2
          exact ⟨a, by omega, e⟩) (fun r hr => by
        have h3 := w.nr.2
        rw [fr _ (by omega) (by omega) (by omega)]
        obtain ⟨a, ha, e⟩ := (w.car r (by omega)).2
        exact ⟨a, by omega, e⟩) m
      have e1 := hM.1 c v 1 hc hvo (by omega) (by rw [hway v hv, if_pos rfl])
      have e2 := congrFun e1 1
      have el : lv (zGa c v z) v = lv z v := by
        unfold lv
        rw [fr _ (by omega) (by omega) (by omega)]
      have eg : gZ (zGa c v z) c v = gZ z c v := gZ_congr (by
        rw [(w.cra c hc).2.2 q5]
        unfold zGa
        rw [upd_eq]) (fr _ (by omega) (by omega) (by omega)) (fr _ (by omega) (by omega) (by omega)) (fr _ (by omega) (by omega) (by omega)) (fun k hk => fr _ (by omega) (by omega) (by omega))
      rw [fr 7 (by omega) (by omega) (by omega), fr 8 (by omega) (by omega) (by omega), fr 9 (by omega) (by omega) (by omega), fr (95 + 4 * c + 1) (by omega) (by omega) (by omega), el, eg] at e2
      rw [← e2]
      rfl
    · rw [if_neg hg]
      have e0 : F_5mayHave c v nv z = 0 := by
        rcases mayHave_iff (z := z) (nv := nv) (c := c) (v := v) with ⟨e1, _⟩ | ⟨e0, _⟩
        · exact absurd (hgk.mpr e1) hg
        · exact e0
      have hG : Gr m nv nc z c v = -1 := by
        unfold Gr B_5layGains_9
        rw [if_neg (show ¬ nc ≤ c by omega), if_neg (show ¬ nv ≤ v by omega), if_pos e0, upd_eq]
      rw [hG]
      exact m1
  · rw [if_neg (fun g => hc g.1)]
    have hG : Gr m nv nc z c v = -1 := by
      unfold Gr B_5layGains_9
      rw [if_pos (show nc ≤ c by omega), upd_eq]
    rw [hG]
    exact m1
/-- cradles and volumes that aren't there -/
theorem Gr_no {c v : Nat} (h : nc ≤ c ∨ nv ≤ v) : toO (Gr m nv nc z c v) = none := by
  have hG : Gr m nv nc z c v = -1 := by
    unfold Gr B_5layGains_9
    by_cases e : nc ≤ c
    · rw [if_pos e, upd_eq]
    · rw [if_neg e, if_pos (by omega), upd_eq]
  rw [hG]
  rfl
end GA
