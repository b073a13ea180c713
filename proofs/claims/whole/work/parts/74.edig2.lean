section DI2
variable {T : Nat → Nat → Int32} {z : Nat → Int32} {nv nc nr ne : Nat}
theorem dg_text {q : Nat} {tc te : Nat → Int32} (hq : ∀ k, k < q → tc k = te k) {g : Int64} {sa ga pi be : Nat → Int32} {sv : Int32} (hg : g = F_5mixAhead_hh nv nc nr z ((L_5digest_88 nv nc nr ne z sa sv nc).2) ga pi be sv (L_5digest_185 nv nc nr ne z sa sv (5 * ne))) : ∀ j : Nat, j ≤ q → L_4mixText_16 g q tc j = L_5digest_232 nv nc nr ne q z sa te ga pi be sv j
  | 0, _ => by
    show F_4mix g _ = F_5mix_hh _ _
    rw [hg]
    rfl
  | j + 1, hj => by
    show B_4mixText_16 tc j (L_4mixText_16 g q tc j) = B_5digest_232 te j (L_5digest_232 nv nc nr ne q z sa te ga pi be sv j)
    rw [dg_text hq hg j (by omega)]
    unfold B_4mixText_16 B_5digest_232
    rw [hq j (by omega)]
    rfl
/-- the digest: the class's is the reference's -/
theorem e_digest (h : RT T z nv nc) (w : WZ z nv nc nr ne) {q : Nat} {tc te : Nat → Int32} (hq : ∀ k, k < q → tc k = te k) (sc : Int32) (sa ga pi be pg ph pc : Nat → Int32) (h4 : ph 4 = nI 0) (hbe : ∀ k, k < 4 → pc (4 + k) = be k) :
    F_4digest nv nc nr ne q T sc tc pg ph pc = F_5digest nv nc nr ne q z sa te ga pi be sc ∧ TRF T (F_4digest_T nv nc nr ne T sc pg ph) ∧ F_4digest_ph nv nc nr ne T sc pg ph 4 = nI 0 ∧ (∀ k, k < 4 → F_4digest_pc nv nc nr ne T sc pg ph pc (4 + k) = F_5digest_be nv nc z ga pi be k) ∧ F_4digest_pm nv nc nr ne T sc pg ph pc = F_5digest_bm nv nc z ga pi be := by
  have h12 := w.nv.2
  have hc4 := w.nc.2
  have c1 := dg_34 h w sc 4 (Nat.le_refl _)
  have c2 := dg_v5 h w (L_4digest_34 nv nc T sc 4) sc c1 nv (Nat.le_refl _)
  obtain ⟨c3, t1⟩ := dg_c5 h w (L_4mixVolumes_5 (L_4digest_34 nv nc T sc 4) nr ne T nv) sc sa c2 nc (Nat.le_refl _)
  have r1 := t1.rt h h12 hc4
  have t2 := TRF_done r1 w
  have r2 := t2.rt r1 h12 hc4
  obtain ⟨t3, b1, b2, b3⟩ := e_best (m := 20) r2 w (by omega) ga pi be pg ph pc h4 hbe
  have r3 := t3.rt r2 h12 hc4
  refine ⟨?_, t1.trans (t2.trans t3), b1, b2, b3⟩
  refine dg_text hq ?_ q (Nat.le_refl _)
  have s1 := (share_T (TI_RT r3 w)).1
  have s2 := e_share r3 w sc
  have key : ∀ j, j ≤ 5 → L_4digest_114 nv nc nr ne T sc pg ph pc j = L_5mixAhead_17 nv nc nr z ((L_5digest_88 nv nc nr ne z sa sc nc).2) ga pi be (L_5digest_185 nv nc nr ne z sa sc (5 * ne)) j := by
    intro j
    induction j with
    | zero =>
      intro _
      have c4 := dg_r5 r1 sc sa (F_4mixCradles (L_4mixVolumes_5 (L_4digest_34 nv nc T sc 4) nr ne T nv) nc T) c3 nr w.nr.2
      have c5 := dg_e5 r1 sc sa _ c4 ne w.ne.2
      show F_4mix (L_4mixEntries_5 (L_4mixCarriers_5 (F_4mixCradles (L_4mixVolumes_5 (L_4digest_34 nv nc T sc 4) nr ne T nv) nc T) (L_4mixCradles_5 (L_4mixVolumes_5 (L_4digest_34 nv nc T sc 4) nr ne T nv) T nc).2 nr) (L_4mixCradles_5 (L_4mixVolumes_5 (L_4digest_34 nv nc T sc 4) nr ne T nv) T nc).2 ne) ((F_0minutesUntilDone nc (L_4mixCradles_5 (L_4mixVolumes_5 (L_4digest_34 nv nc T sc 4) nr ne T nv) T nc).2).toInt64) = F_5mix_hh _ _
      rw [c5, e_done r1 w ((L_5digest_88 nv nc nr ne z sa sc nc).2)]
      rfl
    | succ j ih =>
      intro hj
      show B_4digest_114 nv nc nr ne T sc pg ph pc j (L_4digest_114 nv nc nr ne T sc pg ph pc j) = B_5mixAhead_17 nv nc z ga pi be j (L_5mixAhead_17 nv nc nr z ((L_5digest_88 nv nc nr ne z sa sc nc).2) ga pi be (L_5digest_185 nv nc nr ne z sa sc (5 * ne)) j)
      rw [ih (by omega)]
      unfold B_4digest_114 B_5mixAhead_17
      have ea : F_2answer j (F_2make_pc (nI 20) nv nc (F_0minutesUntilDone_T nc (F_4mixCradles_T (L_4mixVolumes_5 (L_4digest_34 nv nc T sc 4) nr ne T nv) nc T)) pg ph pc) (F_2make_pm (nI 20) nv nc (F_0minutesUntilDone_T nc (F_4mixCradles_T (L_4mixVolumes_5 (L_4digest_34 nv nc T sc 4) nr ne T nv) nc T)) pg ph pc) = F_5bestNow j (F_5layBest_be 20 nv nc z ga pi be) (F_5layBest_bm 20 nv nc z ga pi be) := by
        unfold F_2answer F_5bestNow
        by_cases q0 : j = 0
        · rw [if_pos q0, if_pos q0]
          exact b3
        · rw [if_neg q0, if_neg q0]
          exact b2 (j - 1) (by omega)
      rw [ea]
      rfl
  rw [key 5 (Nat.le_refl _)]
  unfold F_5mixAhead_hh
  rw [← s2, ← bits_eq s1]
  rfl
end DI2
