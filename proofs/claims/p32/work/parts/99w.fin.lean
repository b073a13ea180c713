section FIN
theorem z0_hi {i : Nat} (h : 10 < i) : z0_ i = 0 := by
  show upd (upd (upd (upd (upd (fun _ => 0) 4 (nI 2000)) 7 (nI 1)) 8 (nI 1)) 9 (nI 30)) 10 (nI 1) i = 0
  rw [upd_ne (by omega), upd_ne (by omega), upd_ne (by omega), upd_ne (by omega), upd_ne (by omega)]
theorem RT_0 : RT T0_ z0_ 0 0 := by
  refine ⟨fun k _ => rfl, fun v w hv hw h5 => ?_, fun v hv => absurd hv (by omega), fun v _ _ => rfl, fun v k w hv hk hw => ?_, fun c hc => ⟨?_, ?_, ?_, ?_⟩, fun c hc => absurd hc (by omega), fun c _ _ => rfl, fun r w hr hw => ?_, fun e w he hw => ?_⟩
  · rw [z0_hi (by omega)]; rfl
  · rw [z0_hi (by omega)]; rfl
  · rw [z0_hi (by omega)]; rfl
  · rw [z0_hi (by omega)]; rfl
  · rw [z0_hi (by omega)]; rfl
  · rw [z0_hi (by omega)]; rfl
  · rw [z0_hi (by omega)]; rfl
  · rw [z0_hi (by omega)]; rfl
theorem WZ_0 : WZ z0_ 0 0 0 0 := by
  refine ⟨⟨⟨rfl, by omega⟩, ⟨rfl, by omega⟩, ⟨rfl, by omega⟩, ⟨rfl, by omega⟩, fun v hv => absurd hv (by omega)⟩, ⟨0, rfl⟩, ⟨⟨1, by omega, by omega, rfl⟩, ⟨1, by omega, rfl⟩, ⟨30, by omega, by omega, rfl⟩, ⟨1, by omega, rfl⟩⟩, fun v hv => absurd hv (by omega), fun v v' hv => absurd hv (by omega), fun v k hv hk => ⟨0, by omega, ?_⟩, fun v x hv hv' hx => ?_, fun v k x hv hv' hk hx => ?_, fun c hc => absurd hc (by omega), fun c x hc hc' hx => ?_, fun r hr => ⟨⟨0, by omega, ?_⟩, ⟨0, by omega, ?_⟩⟩, fun r x hr hr' hx => ?_⟩
  · rw [z0_hi (by omega)]; rfl
  · rw [z0_hi (by omega)]; rfl
  · rw [z0_hi (by omega)]; rfl
  · rw [z0_hi (by omega)]; rfl
  · rw [z0_hi (by omega)]; rfl
  · rw [z0_hi (by omega)]; rfl
  · rw [z0_hi (by omega)]; rfl
theorem LZ_0 : LZ Z0_ Z0_ Z0_ Z0_ Z0_ Z0_ Z0_ st0_ cc0_ z0_ 0 0 0 0 := by
  refine ⟨⟨fun k hk => ?_, fun v w hv hw h5 => ?_, fun v hv => absurd hv (by omega), fun v k hv hk => ?_, fun v k hv hk => ?_, fun c w hc hw => ?_, fun v hv => absurd hv (by omega), by omega, by omega⟩, fun k hk => ?_, fun v k hv hk => ?_, fun r w hr hw => ?_, fun e w he hw => ?_, by omega, by omega, fun v hv => absurd hv (by omega)⟩
  · obtain rfl | rfl | rfl | rfl : k = 0 ∨ k = 1 ∨ k = 2 ∨ k = 3 := by omega
    · rfl
    · rfl
    · rfl
    · rfl
  · rw [z0_hi (by omega)]
  · rw [z0_hi (by omega)]
  · rw [z0_hi (by omega)]
  · rw [z0_hi (by omega)]
  · obtain rfl | rfl | rfl | rfl | rfl | rfl | rfl : k = 0 ∨ k = 1 ∨ k = 2 ∨ k = 3 ∨ k = 4 ∨ k = 5 ∨ k = 6 := by omega
    · rfl
    · rfl
    · rfl
    · rfl
    · rfl
    · rfl
    · rfl
  · rw [z0_hi (by omega)]
  · rw [z0_hi (by omega)]
  · rw [z0_hi (by omega)]
theorem SS_0 : SS T0_ (nI 0) (nI 0) Z0_ Z0_ Z0_ Z0_ Z0_ Z0_ Z0_ st0_ cc0_ z0_ 0 0 0 0 0 0 :=
  ⟨RT_0, WZ_0, LZ_0, ⟨fun v k hv => absurd hv (by omega), fun v k hv hk => by rw [z0_hi (by omega)]; exact Int32.le_refl _⟩, rfl, ⟨0, by omega, rfl⟩, rfl, by omega, fun h => absurd h (by omega)⟩
/-- the end that the law wants -/
def QL (N0 : Nat) : AQ := fun below args s mcT msT t => vx_MQ below (fun _ _ oc _ => oc = .returned (some (.int 1))) (fun _ _ _ => False) args s mcT msT (fun q => N0 ≤ q) t
theorem AR.toAP {E : AE} {M : AM} {d pc : Nat} {L : AL} {st : List Value} {h h' : AH} {mc ms : Nat} (k : AR E M d pc L st h (.inl (some (.int (nI 1)))) h' mc ms) : AP E M d pc L st h (QL E.N0) mc ms := by
  intro p e R s m args below meth c H locs cells slots ls mcT msT C hR hS hl b1 b2 b3 b4 T hT X
  obtain ⟨t, a, o, g1, g2, g3⟩ := k p e R s m args below meth c H locs cells slots ls mcT msT C hR hS hl b1 b2 b3 b4 T hT X
  refine ⟨t, a, o, g1, g2, ?_⟩
  rcases g3 with ⟨⟨r, hr, ho, -⟩, hL⟩ | ⟨q, ho, En, ce, L, ⟨hx, -⟩, -⟩
  · cases hr
    exact Or.inl ⟨ho, hL⟩
  · cases hx
variable {l : Launch} {D : va_G} {cI : ClassId} {old : Nat → Nat} {N0 : Nat}
/-- the law, from its entry to its end, on every script of at most 1000 ints -/
theorem law_ap {sx : Nat → Int32} {sl : Nat} (hsl : sl ≤ 1000) : AP (EC l D cI old N0) M_L_law 11 0 [some (.ref 0), none, none, none, none, none, none, none, none, none, none, none, none, none, none] [] [ol_ sx sl lsS gsS, []] (QL N0) (1302 + 44) (24955 + 14419) := by
  refine law_made ?_
  refine AP.cast (h1 := [ol_ sx sl lsS gsS, tl0_]) rfl rfl rfl ?_
  refine AP_switch ?_
  obtain ⟨h', k⟩ := law_from (l := l) (D := D) (cI := cI) (old := old) (N0 := N0) (sx := sx) (sl := sl) (K := K0_) (tc := Z0_) (tp := Z0_) (tl := nI 0) (tn := nI 0) (trd := nI 0) (tv := nI 0) (tdg := nI 0) (tf := nI 0) (tla := nI 0) (pg := Z0_) (ph := Z0_) (pc := Z0_) (pm := nI 0) hsl SS_0 rfl
  exact AR.toAP k
end FIN
