/-! THE BEST LOAD: the class's is the reference's -/
section BEST
variable {T : Nat → Nat → Int32} {z : Nat → Int32} {nv nc nr ne m : Nat}
theorem e_best (h : RT T z nv nc) (w : WZ z nv nc nr ne) (hm : m ≤ 1000) (ga pi be pg ph pc : Nat → Int32) (h4 : ph 4 = nI 0) (hbe : ∀ k, k < 4 → pc (4 + k) = be k) :
    TRF T (F_2make_T (nI m) nv nc T pg ph) ∧ F_2make_ph (nI m) nv nc T pg ph 4 = nI 0 ∧ (∀ k, k < 4 → F_2make_pc (nI m) nv nc T pg ph pc (4 + k) = F_5layBest_be m nv nc z ga pi be k) ∧ F_2make_pm (nI m) nv nc T pg ph pc = F_5layBest_bm m nv nc z ga pi be := by
  obtain ⟨a1, a2, a3⟩ := mk2 w hm h pg ph h4 4 (Nat.le_refl _)
  have hga : ∀ c v, c < 4 → v < 12 → F_5layGains_ga m nv nc z ga (12 * c + v) = oI ((fun c v => toO (Gr m nv nc z c v)) c v) := fun c v hc hv => (lay2 h w hm ga 4 c v hc hv).trans (g_1 h w hm c v).2.2.2.2
  have hb : ∀ c v k, (fun c v => toO (Gr m nv nc z c v)) c v = some k → k ≤ 40 := fun c v k e => (g_1 h w hm c v).1 k e
  have hpg : ∀ c v, c < 4 → v < 12 → (L_2make_2 (nI m) nv nc T pg ph 4).2.1 (c * 12 + v) = nI (((fun c v => toO (Gr m nv nc z c v)) c v).getD 0) := fun c v hc hv => a2 c v hc (by omega) hv
  have hph : ∀ k, k ≤ 4 → (L_2make_2 (nI m) nv nc T pg ph 4).2.2 (4 - k) = nI (hpS (fun c v => ((fun c v => toO (Gr m nv nc z c v)) c v).getD 0) k) := a3
  have R0 := RSP_0 (g := fun c v => toO (Gr m nv nc z c v)) (ga := F_5layGains_ga m nv nc z ga)
  have C0 := SPC_0 (g := fun c v => toO (Gr m nv nc z c v)) (ga := F_5layGains_ga m nv nc z ga)
  have R1 := RSP_s hga hb (show 0 < 4 by omega) R0
  have C1 := SPC_s hga hb hpg hph (show 0 < 4 by omega) R0 C0
  have R2 := RSP_s hga hb (show 1 < 4 by omega) R1
  have C2 := SPC_s hga hb hpg hph (show 1 < 4 by omega) R1 C1
  have R3 := RSP_s hga hb (show 2 < 4 by omega) R2
  have C3 := SPC_s hga hb hpg hph (show 2 < 4 by omega) R2 C2
  have C4 := SPC_s hga hb hpg hph (show 3 < 4 by omega) R3 C3
  obtain ⟨-, c2, c3⟩ := C4 pi be pc (-1) (nI 0) (fun _ => false) 0 (by omega) (fun v hv => ⟨fun _ => rfl, fun _ => by
    show nI 0 &&& _ = 0
    exact Int32.zero_and⟩) (fun v hv => rfl) rfl (fun c hc => by omega) hbe
  have e := F0_g (nI 0) (nI 0) (L_2make_2 (nI m) nv nc T pg ph 4).2.1 (L_2make_2 (nI m) nv nc T pg ph 4).2.2 pc (-1)
  refine ⟨a1, a3 0 (by omega), fun k hk => ?_, ?_⟩
  · have e1 : F_2make_pc (nI m) nv nc T pg ph pc = _ := congrArg Prod.fst e
    rw [e1]
    exact c2 k hk
  · have e1 : F_2make_pm (nI m) nv nc T pg ph pc = _ := congrArg Prod.snd e
    rw [e1]
    exact c3
end BEST
