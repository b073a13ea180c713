theorem i_and_or (a b c : Int32) : (a ||| b) &&& c = (a &&& c) ||| (b &&& c) := by
  apply Int32.toBitVec_inj.mp
  rw [Int32.toBitVec_or, Int32.toBitVec_and, Int32.toBitVec_and, Int32.toBitVec_and, Int32.toBitVec_or]
  ext i hi
  rw [BitVec.getElem_or, BitVec.getElem_and, BitVec.getElem_and, BitVec.getElem_and, BitVec.getElem_or, Bool.and_or_distrib_right]
theorem mask_tab : ∀ j : Fin 12, ∀ v : Fin 12, ((nI 1 <<< (nI j.val &&& 31)) &&& (nI 1 <<< (nI v.val &&& 31)) = 0) ↔ v.val ≠ j.val := by decide +kernel
theorem mask_or {u : Int32} {j v : Nat} (hj : j < 12) (hv : v < 12) : (u ||| (nI 1 <<< (nI j &&& 31))) &&& (nI 1 <<< (nI v &&& 31)) = 0 ↔ u &&& (nI 1 <<< (nI v &&& 31)) = 0 ∧ v ≠ j := by
  rw [i_and_or, Int32.or_eq_zero_iff]
  have := mask_tab ⟨j, hj⟩ ⟨v, hv⟩
  rw [this]
section SE3
variable {g : Nat → Nat → Option Nat} {ga : Nat → Int32}
/-- the class's search does as the reference's -/
def SPC (g : Nat → Nat → Option Nat) (ga : Nat → Int32) (n : Nat) (rs : SG → SG) (cf : CFN) : Prop := ∀ (pi be pc : Nat → Int32) (bm u : Int32) (U : Nat → Bool) (s : Nat), s + 40 * n ≤ 160 → (∀ v, v < 12 → (u &&& (nI 1 <<< (nI v &&& 31)) = 0 ↔ U v = false)) → (∀ v, v < 12 → U v = usd pi (4 - n) v) → L_5keepPicks_4 ga pi (4 - n) = nI s → (∀ c, c < 4 - n → pc c = pi c) → (∀ k, k < 4 → pc (4 + k) = be k) →
  (∀ c, c < 4 - n → (cf u (nI s) pc bm).1 c = pi c) ∧ (∀ k, k < 4 → (cf u (nI s) pc bm).1 (4 + k) = (rs (pi, be, bm)).2.1 k) ∧ (cf u (nI s) pc bm).2 = (rs (pi, be, bm)).2.2
theorem SPC_0 : SPC g ga 0 (sub3 ga) f4 := by
  intro pi be pc bm u U s hs0 hm hU hs hp hb
  obtain ⟨k1, k2⟩ := kpW (ga := ga) pi be bm
  have hs' : L_5keepPicks_4 ga pi 4 = nI s := hs
  rw [hs'] at k1 k2
  show (∀ c, c < 4 → (if nI s ≤ bm then pc else va_cpy pc pc (0 * 4) (1 * 4) 4) c = pi c) ∧ (∀ k, k < 4 → (if nI s ≤ bm then pc else va_cpy pc pc (0 * 4) (1 * 4) 4) (4 + k) = F_5keepPicks_be ga pi be bm k) ∧ (if nI s ≤ bm then bm else nI s) = F_5keepPicks_bm ga pi be bm
  rw [k1]
  refine ⟨fun c hc => ?_, fun k hk => ?_, rfl⟩
  · split
    · exact hp c hc
    · rw [pk_cpy_out (by omega)]
      exact hp c hc
  · rw [k2 k hk]
    split
    · exact hb k hk
    · rw [pk_cpy_in (by omega) (by omega), show 0 * 4 + (4 + k - 1 * 4) = k by omega]
      exact hp k (by omega)
theorem SPC_s (hga : ∀ c v, c < 4 → v < 12 → ga (12 * c + v) = oI (g c v)) (hb : ∀ c v k, g c v = some k → k ≤ 40) {pg ph : Nat → Int32} (hpg : ∀ c v, c < 4 → v < 12 → pg (c * 12 + v) = nI ((g c v).getD 0)) (hph : ∀ k, k ≤ 4 → ph (4 - k) = nI (hpS (fun c v => (g c v).getD 0) k)) {n : Nat} (hn : n < 4) {rs : SG → SG} {cf : CFN} (hR : RSP g ga n rs) (hC : SPC g ga n rs cf) : SPC g ga (n + 1) (fun S => dv ga (3 - n) rs 13 (upd S.1 (3 - n) (-2), S.2)) (gF (3 - n) cf pg ph) := by
  intro pi be pc bm u U s hs0 hm hU hs hp hbe
  have hR' := RSP_s hga hb hn hR pi be bm U s hU hs
  rw [show 4 - (n + 1) = 3 - n by omega] at hU hs hp
  have e4 : 4 - n = (3 - n) + 1 := by omega
  have hg40 : ∀ c v, (g c v).getD 0 ≤ 40 := fun c v => by
    cases e : g c v with
    | none => exact Nat.zero_le _
    | some k => exact hb c v k e
  have hope : ph (3 - n) = nI (hpS (fun c v => (g c v).getD 0) (n + 1)) := by
    rw [show 3 - n = 4 - (n + 1) by omega]
    exact hph (n + 1) (by omega)
  have hope40 : hpS (fun c v => (g c v).getD 0) (n + 1) ≤ 40 * (n + 1) := hpS_le hg40 (n + 1)
  show (∀ c, c < 4 - (n + 1) → (if bm < nI s + ph (3 - n) then gL (3 - n) cf u (nI s) pg pc bm 12 else (pc, bm)).1 c = pi c) ∧ (∀ k, k < 4 → (if bm < nI s + ph (3 - n) then gL (3 - n) cf u (nI s) pg pc bm 12 else (pc, bm)).1 (4 + k) = (dv ga (3 - n) rs 13 (upd pi (3 - n) (-2), be, bm)).2.1 k) ∧ (if bm < nI s + ph (3 - n) then gL (3 - n) cf u (nI s) pg pc bm 12 else (pc, bm)).2 = (dv ga (3 - n) rs 13 (upd pi (3 - n) (-2), be, bm)).2.2
  by_cases hpr : bm < nI s + ph (3 - n)
  · rw [if_pos hpr, dv_12, show 4 - (n + 1) = 3 - n by omega]
    have key : ∀ j : Nat, j ≤ 12 → (∀ c, c < 3 - n → (gL (3 - n) cf u (nI s) pg pc bm j).1 c = pi c) ∧ (∀ k, k < 4 → (gL (3 - n) cf u (nI s) pg pc bm j).1 (4 + k) = (rl ga (3 - n) rs (upd pi (3 - n) (-2), be, bm) j).2.1 k) ∧ (gL (3 - n) cf u (nI s) pg pc bm j).2 = (rl ga (3 - n) rs (upd pi (3 - n) (-2), be, bm) j).2.2 := by
      intro j
      induction j with
      | zero =>
        intro _
        rw [rl_0]
        have hm1 : ∀ v, v < 12 → U v = usd (upd pi (3 - n) (-1)) (4 - n) v := fun v hv => by
          rw [e4, ← usd_up (p := pi) (U := U) (v := v) (fun _ _ => rfl) (hU v hv), decide_eq_false (fun e => nI_m1 (q := v) (by omega) e.symm), Bool.or_false]
        have hk1 : L_5keepPicks_4 ga (upd pi (3 - n) (-1)) (4 - n) = nI s := by
          rw [e4, kp_up (p := pi) (pi := pi) (fun _ _ => rfl), if_pos rfl, hs, i_a0]
        obtain ⟨c1, c2, c3⟩ := hC (upd pi (3 - n) (-1)) be (upd pc ((0 * 4) + (3 - n)) (-1)) bm u U s (by omega) hm hm1 hk1 (fun c hc => by
          by_cases q : c = 3 - n
          · rw [q, upd_eq, show 0 * 4 + (3 - n) = 3 - n by omega, upd_eq]
          · rw [upd_ne (by omega), upd_ne (by omega)]
            exact hp c (by omega)) (fun k hk => by
          rw [upd_ne (by omega)]
          exact hbe k hk)
        exact ⟨fun c hc => (c1 c (by omega)).trans (upd_ne (by omega)), c2, c3⟩
      | succ j ih =>
        intro hj
        obtain ⟨a1, a2, a3⟩ := ih (by omega)
        obtain ⟨i1, i2, i3, i4, i5⟩ := rl_inv (be := be) (bm := bm) hga hb hn hR hU hs j (by omega)
        rw [rl_s (show j < 12 by omega)]
        show (∀ c, c < 3 - n → (gB (3 - n) cf u (nI s) pg j (gL (3 - n) cf u (nI s) pg pc bm j)).1 c = pi c) ∧ _
        show _ ∧ (∀ k, k < 4 → (gB (3 - n) cf u (nI s) pg j (gL (3 - n) cf u (nI s) pg pc bm j)).1 (4 + k) = _) ∧ (gB (3 - n) cf u (nI s) pg j (gL (3 - n) cf u (nI s) pg pc bm j)).2 = _
        generalize rl ga (3 - n) rs (upd pi (3 - n) (-2), be, bm) j = X at a2 a3 i1 i2 i3 i4 i5
        generalize gL (3 - n) cf u (nI s) pg pc bm j = Y at a1 a2 a3
        have hcan := can_v hga hb (D := 3 - n) (v := j) (by omega) (by omega) X.1
        have hus : usd X.1 (3 - n) j = U j := by rw [hU j (by omega)]; exact usd_congr _ i1
        rw [hus] at hcan
        have hpgj := hpg (3 - n) j (by omega) (by omega)
        unfold gB
        rw [hpgj]
        cases hg : g (3 - n) j with
        | none =>
          rw [if_pos (hcan.mpr (Or.inl hg)), if_pos (show nI ((none : Option Nat).getD 0) ≤ (0 : Int32) from le0 (by show 0 < _; omega) rfl)]
          exact ⟨a1, a2, a3⟩
        | some k =>
          have hk40 := hb _ _ _ hg
          show (∀ c, c < 3 - n → (if nI k ≤ 0 then Y else if u &&& (nI 1 <<< (nI j &&& 31)) = 0 then cf (u ||| (nI 1 <<< (nI j &&& 31))) (nI s + nI k) (upd Y.1 ((0 * 4) + (3 - n)) (nI j)) Y.2 else Y).1 c = pi c) ∧ (∀ w, w < 4 → (if nI k ≤ 0 then Y else if u &&& (nI 1 <<< (nI j &&& 31)) = 0 then cf (u ||| (nI 1 <<< (nI j &&& 31))) (nI s + nI k) (upd Y.1 ((0 * 4) + (3 - n)) (nI j)) Y.2 else Y).1 (4 + w) = _) ∧ (if nI k ≤ 0 then Y else if u &&& (nI 1 <<< (nI j &&& 31)) = 0 then cf (u ||| (nI 1 <<< (nI j &&& 31))) (nI s + nI k) (upd Y.1 ((0 * 4) + (3 - n)) (nI j)) Y.2 else Y).2 = _
          cases hu : U j with
          | true =>
            rw [if_pos (hcan.mpr (Or.inr hu))]
            have hmk : ¬ u &&& (nI 1 <<< (nI j &&& 31)) = 0 := fun e => by
              have := (hm j (by omega)).mp e
              rw [hu] at this
              cases this
            simp only [if_neg hmk]
            rw [show (if nI k ≤ 0 then Y else Y) = Y by split <;> rfl]
            exact ⟨a1, a2, a3⟩
          | false =>
            have hnc : ¬ F_5canPick (3 - n) ga (upd X.1 (3 - n) (nI j)) = 0 := fun q => by
              rcases hcan.mp q with q | q
              · rw [hg] at q
                cases q
              · rw [hu] at q
                cases q
            rw [if_neg hnc]
            have hm1 : ∀ v, v < 12 → addU U j v = usd (upd X.1 (3 - n) (nI j)) (4 - n) v := fun v hv => by
              rw [e4, ← usd_up (p := X.1) (U := U) (v := v) i1 (hU v hv)]
              unfold addU
              congr 1
              by_cases e : v = j
              · rw [decide_eq_true e, decide_eq_true (by rw [e])]
              · rw [decide_eq_false e, decide_eq_false (fun p => e ((nI_eq (by omega) (by omega)).mp p).symm)]
            have hk1 : L_5keepPicks_4 ga (upd X.1 (3 - n) (nI j)) (4 - n) = nI (s + k) := by
              rw [e4, kp_up i1, if_neg (nI_m1 (by omega)), cl_nI (by omega), hga _ _ (by omega) (by omega), hg, hs]
              exact nI_add s k
            by_cases hk0 : k = 0
            · subst hk0
              rw [if_pos (show nI 0 ≤ (0 : Int32) from le0 (by omega) rfl)]
              obtain ⟨-, -, -, r4⟩ := hR (upd X.1 (3 - n) (nI j)) X.2.1 X.2.2 (addU U j) (s + 0) hm1 hk1
              obtain ⟨r5, r6⟩ := r4 fun x hx => i3 x (reach_mono n _ _ _ _ (fun v hv => by
                unfold addU at hv
                rw [Bool.or_eq_false_iff] at hv
                exact hv.1) hx)
              exact ⟨a1, fun w hw => (a2 w hw).trans (r5 w hw).symm, a3.trans r6.symm⟩
            · have hmk : u &&& (nI 1 <<< (nI j &&& 31)) = 0 := (hm j (by omega)).mpr hu
              simp only [if_neg (nle0 (a := k) (by omega) hk0), if_pos hmk]
              rw [nI_add, a3]
              obtain ⟨c1, c2, c3⟩ := hC (upd X.1 (3 - n) (nI j)) X.2.1 (upd Y.1 ((0 * 4) + (3 - n)) (nI j)) X.2.2 (u ||| (nI 1 <<< (nI j &&& 31))) (addU U j) (s + k) (by omega) (fun v hv => by
                rw [mask_or (by omega) hv, hm v hv]
                unfold addU
                rw [Bool.or_eq_false_iff]
                exact ⟨fun q => ⟨q.1, decide_eq_false q.2⟩, fun q => ⟨q.1, of_decide_eq_false q.2⟩⟩) hm1 hk1 (fun c hc => by
                by_cases q : c = 3 - n
                · rw [q, upd_eq, show 0 * 4 + (3 - n) = 3 - n by omega, upd_eq]
                · rw [upd_ne (by omega), upd_ne (by omega), a1 c (by omega), i1 c (by omega)]) (fun w hw => by
                rw [upd_ne (by omega)]
                exact a2 w hw)
              exact ⟨fun c hc => (c1 c (by omega)).trans ((upd_ne (by omega)).trans (i1 c hc)), c2, c3⟩
    exact key 12 (Nat.le_refl _)
  · rw [if_neg hpr]
    obtain ⟨-, -, -, r4⟩ := hR'
    rw [hope, nI_add] at hpr
    obtain ⟨r5, r6⟩ := r4 fun x hx => by
      have hx' := reach_hope (n + 1) U s x hx
      exact Int32.le_trans (nI_le hx' (by omega)) (Int32.not_lt.mp hpr)
    exact ⟨fun c hc => hp c (by omega), fun k hk => (hbe k hk).trans (r5 k hk).symm, r6.symm⟩
end SE3
