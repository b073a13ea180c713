section FIN
theorem z0_hi {i : Nat} (h : 10 < i) : z0_ i = 0 := by
  show upd (upd (upd (upd (upd (fun _ => 0) 4 (nI 2000)) 7 (nI 1)) 8 (nI 1)) 9 (nI 30)) 10 (nI 1) i = 0
  rw [upd_ne (by omega), upd_ne (by omega), upd_ne (by omega), upd_ne (by omega), upd_ne (by omega)]
theorem RT_0 : RT T0_ z0_ 0 0 := by
  refine ⟨fun k _ => rfl, fun v w hv hw h5 => ?_, fun v hv => absurd hv (by omega), fun v _ _ => rfl, fun v k w hv hk hw => ?_, fun c hc => ⟨?_, ?_, ?_, ?_⟩, fun c hc => absurd hc (by omega), fun c _ _ => rfl, fun r w hr hw => ?_, fun e w he hw => ?_⟩
  · rw [z0_hi (by omega)]; rfl
  · rw [z0_hi (by omega)]; rfl
  · rw [z0_hi (by omega)]; rfl
  · rw [z0_hi (by omega)]; rfl
  · rw [z0_hi (by omega)]; rfl
  · rw [z0_hi (by omega)]; rfl
  · rw [z0_hi (by omega)]; rfl
  · rw [z0_hi (by omega)]; rfl
theorem WZ_0 : WZ z0_ 0 0 0 0 := by
  refine ⟨⟨⟨rfl, by omega⟩, ⟨rfl, by omega⟩, ⟨rfl, by omega⟩, ⟨rfl, by omega⟩, fun v hv => absurd hv (by omega)⟩, ⟨0, rfl⟩, ⟨⟨1, by omega, by omega, rfl⟩, ⟨1, by omega, rfl⟩, ⟨30, by omega, by omega, rfl⟩, ⟨1, by omega, rfl⟩⟩, fun v hv => absurd hv (by omega), fun v v' hv => absurd hv (by omega), fun v k hv hk => ⟨0, by omega, ?_⟩, fun v x hv hv' hx => ?_, fun v k x hv hv' hk hx => ?_, fun c hc => absurd hc (by omega), fun c x hc hc' hx => ?_, fun r hr => ⟨⟨0, by omega, ?_⟩, ⟨0, by omega, ?_⟩⟩, fun r x hr hr' hx => ?_⟩
  · rw [z0_hi (by omega)]; rfl
  · rw [z0_hi (by omega)]; rfl
  · rw [z0_hi (by omega)]; rfl
  · rw [z0_hi (by omega)]; rfl
  · rw [z0_hi (by omega)]; rfl
  · rw [z0_hi (by omega)]; rfl
  · rw [z0_hi (by omega)]; rfl
theorem IV_0 : IV T0_ K0_ (nI 0) (nI 0) Z0_ (nI 0) Z0_ Z0_ z0_ Z0_ Z0_ Z0_ 0 0 0 0 0 0 0 0 0 :=
  ⟨RT_0, WZ_0, fun i hi => absurd hi (by omega), rfl, by omega, rfl, by omega, rfl, rfl, rfl, by omega, fun k hk => absurd hk (by omega), rfl, fun k _ => rfl⟩
/-- the end that the law wants -/
def QL (N0 : Nat) : AQ := fun below args s mcT msT t => vx_MQ below (fun _ _ oc _ => oc = .returned (some (.int 1))) (fun _ _ _ => False) args s mcT msT (fun q => N0 ≤ q) t
theorem AR.toAP {E : AE} {M : AM} {d pc : Nat} {L : AL} {st : List Value} {h h' : AH} {mc ms : Nat} (k : AR E M d pc L st h (.inl (some (.int (nI 1)))) h' mc ms) : AP E M d pc L st h (QL E.N0) mc ms := by
  intro p e R s m args below meth c H locs cells slots ls mcT msT C hR hS hl b1 b2 b3 b4 T hT X
  obtain ⟨t, a, o, g1, g2, g3⟩ := k p e R s m args below meth c H locs cells slots ls mcT msT C hR hS hl b1 b2 b3 b4 T hT X
  refine ⟨t, a, o, g1, g2, ?_⟩
  rcases g3 with ⟨⟨r, hr, ho, -⟩, hL⟩ | ⟨q, ho, En, ce, L, ⟨hx, -⟩, -⟩
  · cases hr
    exact Or.inl ⟨ho, hL⟩
  · cases hx
variable {l : Launch} {D : va_G} {cI cJ : ClassId} {old : Nat → Nat} {N0 : Nat}
/-- the law, from its entry to its end, on every script of at most 2560 ints -/
theorem law_ap {sx : Nat → Int32} {sl : Nat} (hsl : sl ≤ 2560) : AP (EC l D cI cJ old N0) M_L_law 13 0 [some (.ref 0), none, none, none, none, none, none, none, none] [] [ol_ sx sl lsS gsS, []] (QL N0) (513 + 47) (6 * 513 + 29294) := by
  refine law_made ?_
  refine AP.cast (h1 := [ol_ sx sl lsS gsS, tl0_]) rfl rfl rfl ?_
  refine AP_switch ?_
  obtain ⟨h', k⟩ := law_loop (E := EF l D cI cJ old N0) (sx := sx) (sl := sl) rfl (by omega) 513 0 0 (fun _ => 0) _ (by omega) (by omega) (inv_mk (ol := ol_ sx sl lsS gsS) (tp := Z0_) (tn := nI 0) (trd := nI 0) (tv := nI 0) (tdg := nI 0) (tf := nI 0) (tla := nI 0) (pg := Z0_) (pm := nI 0) (sa := Z0_) (fr := Z0_) (to := Z0_) (un := Z0_) (ga := Z0_) (pi := Z0_) (bm := 0) (en := 0) (sta := 0) (hh := 0) IV_0)
  exact AR.toAP k
end FIN
