/-! THE LAW'S OWN RULES -/
theorem sh_amt : ∀ s, s < 32 → ((nI s &&& 31).toBitVec.smod 32).toNat = s := by decide +kernel
theorem nI_shr {k s : Nat} (hk : k < 2147483648) (hs : s < 32) : nI k >>> (nI s &&& 31) = nI (k / 2 ^ s) := pk_shrN hk _ s (sh_amt s hs)
theorem nI_ushr1 {k : Nat} (hk : k < 2147483648) : ((nI k).toUInt32 >>> ((nI 1).toUInt32 &&& Int32.toUInt32 31)).toInt32 = nI (k / 2) := pk_ushrN (by omega) (nI 1) 1 (by decide +kernel)
theorem and_mask (x : Int32) : ∃ j : Nat, j < 2147483648 ∧ x &&& nI 2147483647 = nI j := pk_andE x 31 (by decide +kernel)
/-- an array is made, at the end -/
theorem AR.newT {E : AE} {M : AM} {d pc : Nat} {L : AL} {st : List Value} {o : AR0} {h' : AH} {mc ms : Nat} {A B C D F G tl : List AC} {x : Int32} {N i9 : Nat} (r : Nat) (hex : E.ex = true) (hcl : E.caps.length = 5) (hlk : ab_at i9 (.arrayClass .int) = true) (hd : decode M.bytes pc = .ok (.newarray .int, 2)) (hr : 24576 + tl.length = r) (hlt : tl.length < 4096) (hx : x = nI N) (hb : N ≤ 1000) (k : AR E M d (pc + 2) L (.ref r :: st) (hp A B C D F G (tl ++ [.inl (.inl (N, fun _ => 0))])) o h' mc ms) : AR E M d pc L (.int x :: st) (hp A B C D F G tl) o h' (mc + 1) (ms + N) := by
  subst hx
  subst hr
  have e1 : E.caps.length + 1 = 6 := by omega
  refine AR.newaI (tl := tl) hex hlk hd (by rw [e1]; rfl) hlt (nI_pos (by omega)) (nI_clamp (by omega)) (by omega) ?_
  rw [e1]
  exact k
/-! arrays that were made are put aside: the same addresses -/
section MERGE
variable {l : Launch} {D : va_G} {cI : ClassId} {old : Nat → Nat} {N0 n n' : Nat}
abbrev EM (l : Launch) (D : va_G) (cI : ClassId) (old : Nat → Nat) (N0 n : Nat) : AE := (l, D, cI, cI, old, N0, [20, 5, 10, 9, n], true)
def ab_lowv : Value → Prop
  | .ref r => r < 24576
  | _ => True
def ab_low : AC → Prop
  | .inr o => ∀ v ∈ o.2, ab_lowv v
  | .inl _ => True
theorem mg_off {j : Nat} (hj : j ≤ 4) : ab_off [20, 5, 10, 9, n] j = ab_off [20, 5, 10, 9, n'] j := by
  match j, hj with
  | 0, _ => rfl
  | 1, _ => rfl
  | 2, _ => rfl
  | 3, _ => rfl
  | 4, _ => rfl
  | j + 5, h => omega
theorem mg_off4 : ab_off [20, 5, 10, 9, n] 4 = 44 := rfl
theorem mg_off5 : ab_off [20, 5, 10, 9, n] 5 = 44 + n := by show 20 + (5 + (10 + (9 + (n + 0)))) = _; omega
theorem mg_adr {r : Nat} (h : r < 24576) : ab_adr (EM l D cI old N0 n) r = ab_adr (EM l D cI old N0 n') r := by
  unfold ab_adr
  by_cases h0 : r / 4096 = 0
  · rw [if_pos h0, if_pos h0]
  · rw [if_neg h0, if_neg h0]
    show N0 + ab_off [20, 5, 10, 9, n] _ + _ = N0 + ab_off [20, 5, 10, 9, n'] _ + _
    rw [mg_off (n := n) (n' := n') (by omega)]
theorem mg_v {v : Value} (h : ab_lowv v) : ab_v (EM l D cI old N0 n) v = ab_v (EM l D cI old N0 n') v := by
  cases v with
  | ref r => exact congrArg Value.ref (mg_adr h)
  | _ => rfl
theorem mg_cell {c : AC} (h : ab_low c) : ab_cell (EM l D cI old N0 n) c = ab_cell (EM l D cI old N0 n') c := by
  match c, h with
  | .inl (.inl a), _ => rfl
  | .inl (.inr a), _ => rfl
  | .inr o, h =>
    show (Sum.inr (o.1, o.2.map _) : va_E) = Sum.inr (o.1, o.2.map _)
    rw [List.map_congr_left (fun v hv => mg_v (h v hv))]
theorem xs_low {X : List (Nat × (Nat → Int32))} : ∀ c ∈ xs_ X, ab_low c := by
  intro c hc
  obtain ⟨a, -, rfl⟩ := List.mem_map.mp hc
  trivial
theorem xs_len {X : List (Nat × (Nat → Int32))} : (xs_ X).length = X.length := List.length_map _
theorem xs_app {X T : List (Nat × (Nat → Int32))} : xs_ (X ++ T) = xs_ X ++ xs_ T := List.map_append
def ab_lows (A B C F : List AC) : Prop := (∀ c ∈ A, ab_low c) ∧ (∀ c ∈ B, ab_low c) ∧ (∀ c ∈ C, ab_low c) ∧ ∀ c ∈ F, ab_low c
/-- a cell's place: its segment and its row -/
theorem mg_seg {ol A B C F G T : List AC} {r : Nat} {c : AC} (h0 : ¬ r / 4096 = 0) (hg : ab_get (hp ol A B C F G T) r = some c) (hl : ab_lows A B C F) : (r < 20480 ∧ ab_low c) ∨ (r / 4096 = 5 ∧ G[r % 4096]? = some c) ∨ (r / 4096 = 6 ∧ T[r % 4096]? = some c) := by
  obtain ⟨s, h1, h2⟩ := ab_get_some hg
  obtain ⟨j, hj⟩ : ∃ j, r / 4096 = j + 1 := ⟨r / 4096 - 1, by omega⟩
  rw [hj] at h1
  match j, hj, h1 with
  | 0, hj, h1 => cases h1; exact Or.inl ⟨by omega, hl.1 c (List.mem_of_getElem? h2)⟩
  | 1, hj, h1 => cases h1; exact Or.inl ⟨by omega, hl.2.1 c (List.mem_of_getElem? h2)⟩
  | 2, hj, h1 => cases h1; exact Or.inl ⟨by omega, hl.2.2.1 c (List.mem_of_getElem? h2)⟩
  | 3, hj, h1 => cases h1; exact Or.inl ⟨by omega, hl.2.2.2 c (List.mem_of_getElem? h2)⟩
  | 4, hj, h1 => cases h1; exact Or.inr (Or.inl ⟨by omega, h2⟩)
  | 5, hj, h1 => cases h1; exact Or.inr (Or.inr ⟨by omega, h2⟩)
  | j + 6, hj, h1 => simp [hp] at h1
theorem mg_get {ol A B C F G T G' T' : List AC} {r : Nat} (h : r < 20480) : ab_get (hp ol A B C F G T) r = ab_get (hp ol A B C F G' T') r := by
  unfold ab_get
  obtain ⟨j, hj⟩ : ∃ j, r / 4096 = j := ⟨_, rfl⟩
  rw [hj]
  match j, hj with
  | 0, _ => rfl
  | 1, _ => rfl
  | 2, _ => rfl
  | 3, _ => rfl
  | 4, _ => rfl
  | j + 5, hj => omega
theorem mg_ge {ol A B C F G T : List AC} {i : Nat} {c : AC} (hi : i < 4096) (h : G[i]? = some c) : ab_get (hp ol A B C F G T) (20480 + i) = some c := by
  unfold ab_get
  rw [show (20480 + i) / 4096 = 5 by omega, show (20480 + i) % 4096 = i by omega]
  exact h
theorem mg_gt {ol A B C F G T : List AC} {i : Nat} {c : AC} (hi : i < 4096) (h : T[i]? = some c) : ab_get (hp ol A B C F G T) (24576 + i) = some c := by
  unfold ab_get
  rw [show (24576 + i) / 4096 = 6 by omega, show (24576 + i) % 4096 = i by omega]
  exact h
theorem mg_a5 {i : Nat} (hi : i < 4096) : ab_adr (EM l D cI old N0 n) (20480 + i) = N0 + 44 + i := by
  rw [ab_adr_new (by omega)]
  show N0 + ab_off [20, 5, 10, 9, n] ((20480 + i) / 4096 - 1) + (20480 + i) % 4096 = _
  rw [show (20480 + i) / 4096 - 1 = 4 by omega, show (20480 + i) % 4096 = i by omega, mg_off4]
theorem mg_a6 {i : Nat} (hi : i < 4096) : ab_adr (EM l D cI old N0 n) (24576 + i) = N0 + 44 + n + i := by
  rw [ab_adr_new (by omega)]
  show N0 + ab_off [20, 5, 10, 9, n] ((24576 + i) / 4096 - 1) + (24576 + i) % 4096 = _
  rw [show (24576 + i) / 4096 - 1 = 5 by omega, show (24576 + i) % 4096 = i by omega, mg_off5]
  omega
theorem mg_caps {ol A B C F G T : List AC} {m : Nat} {U : State} {H : Heap} (hR : ab_R (EM l D cI old N0 n) (hp ol A B C F G T) U H) : A.length = 20 ∧ B.length = 5 ∧ C.length = 10 ∧ F.length = 9 ∧ G.length = n := by
  have h1 := hR.1
  have f : ∀ (j k : Nat) (S : List AC), [20, 5, 10, 9, n][j]? = some k → (hp ol A B C F G T)[j + 1]? = some S → S.length = k := by
    intro j k S e1 e2
    obtain ⟨s, q1, q2⟩ := h1 j k e1
    rw [e2] at q1
    cases q1
    exact q2
  exact ⟨f 0 20 A rfl rfl, f 1 5 B rfl rfl, f 2 10 C rfl rfl, f 3 9 F rfl rfl, f 4 n G rfl rfl⟩
theorem mg_cp {ol A B C F G T : List AC} (h : A.length = 20 ∧ B.length = 5 ∧ C.length = 10 ∧ F.length = 9 ∧ G.length = n) : ∀ (j k : Nat), ([20, 5, 10, 9, n] : List Nat)[j]? = some k → ∃ s, (hp ol A B C F G T)[j + 1]? = some s ∧ s.length = k := by
  intro j k e
  match j, e with
  | 0, e => cases e; exact ⟨A, rfl, h.1⟩
  | 1, e => cases e; exact ⟨B, rfl, h.2.1⟩
  | 2, e => cases e; exact ⟨C, rfl, h.2.2.1⟩
  | 3, e => cases e; exact ⟨F, rfl, h.2.2.2.1⟩
  | 4, e => cases e; exact ⟨G, rfl, h.2.2.2.2⟩
  | j + 5, e => simp at e
theorem mg_old {ol A B C F G T A' B' C' F' G' T' : List AC} {r : Nat} {c : AC} (h0 : r / 4096 = 0) (hg : ab_get (hp ol A B C F G T) r = some c) : ab_get (hp ol A' B' C' F' G' T') r = some c := by
  unfold ab_get at hg ⊢
  rw [h0] at hg ⊢
  exact hg
theorem mg_a0 {r : Nat} (h0 : r / 4096 = 0) : ab_adr (EM l D cI old N0 n) r = ab_adr (EM l D cI old N0 n') r := mg_adr (by omega)
/-- what was made goes to the arrays put aside -/
theorem mg_in {ol A B C F : List AC} {X T : List (Nat × (Nat → Int32))} {U : State} {H : Heap} (hl : ab_lows A B C F) (hR : ab_R (EM l D cI old N0 n) (hp ol A B C F (xs_ X) (xs_ T)) U H) : ab_R (EM l D cI old N0 (n + T.length)) (hp ol A B C F (xs_ (X ++ T)) []) U H := by
  have hc := mg_caps (m := 0) hR
  have hX : X.length = n := by rw [← xs_len]; exact hc.2.2.2.2
  obtain ⟨g1, ⟨tl, g2, g3, g3e⟩, g4, g5, g6⟩ := hR
  have e2 : xs_ T = tl := Option.some.inj g2
  have s1 : (EM l D cI old N0 n).caps.sum = 44 + n := by show 20 + (5 + (10 + (9 + (n + 0)))) = _; omega
  have s2 : (EM l D cI old N0 (n + T.length)).caps.sum = 44 + n + T.length := by show 20 + (5 + (10 + (9 + (n + T.length + 0)))) = _; omega
  have lt : tl.length = T.length := by rw [← e2, xs_len]
  refine ⟨mg_cp ⟨hc.1, hc.2.1, hc.2.2.1, hc.2.2.2.1, by rw [xs_len, List.length_append, hX]⟩, ⟨[], rfl, ?_, fun z => ?_⟩, rfl, fun r c h0 hg => ?_, fun r c h0 hg => ?_⟩
  · show N0 + (EM l D cI old N0 (n + T.length)).caps.sum + 0 ≤ H.size
    have g : N0 + (EM l D cI old N0 n).caps.sum + tl.length ≤ H.size := g3
    rw [s1, lt] at g
    rw [s2]
    omega
  · show H.size = N0 + (EM l D cI old N0 (n + T.length)).caps.sum + 0
    have g : H.size = N0 + (EM l D cI old N0 n).caps.sum + tl.length := g3e z
    rw [s1, lt] at g
    rw [s2]
    omega
  · have hlow : ab_low c := by
      rcases mg_seg h0 hg hl with ⟨q, h⟩ | ⟨q, h⟩ | ⟨q, h⟩
      · exact h
      · exact xs_low c (List.mem_of_getElem? h)
      · simp at h
    rw [← mg_cell (n := n) hlow]
    rcases mg_seg h0 hg hl with ⟨q, -⟩ | ⟨q, h⟩ | ⟨q, h⟩
    · rw [← mg_adr (n := n) (by omega)]
      exact g5 r c h0 (by rw [← hg]; exact mg_get q)
    · obtain ⟨i, hi⟩ : ∃ i, r % 4096 = i := ⟨_, rfl⟩
      rw [hi] at h
      have er : r = 20480 + i := by omega
      subst er
      rw [mg_a5 (by omega)]
      rw [xs_app] at h
      by_cases q1 : i < X.length
      · rw [List.getElem?_append_left (by rw [xs_len]; exact q1)] at h
        have := g5 (20480 + i) c (by omega) (mg_ge (by omega) h)
        rwa [mg_a5 (by omega)] at this
      · rw [List.getElem?_append_right (by rw [xs_len]; omega), xs_len] at h
        have := g5 (24576 + (i - X.length)) c (by omega) (mg_gt (by omega) h)
        rw [mg_a6 (by omega)] at this
        rwa [show N0 + 44 + n + (i - X.length) = N0 + 44 + i by omega] at this
    · simp at h
  · obtain ⟨k, f, f1, f2, f3⟩ := g6 r c h0 (mg_old h0 hg)
    exact ⟨k, f, f1, by rw [mg_a0 (n' := n) h0]; exact f2, by rw [mg_a0 (n' := n) h0]; exact f3⟩
/-- and back -/
theorem mg_out {ol A B C F : List AC} {X T T' : List (Nat × (Nat → Int32))} {U : State} {H : Heap} (hl : ab_lows A B C F) (hX : X.length = n) (hlen : X.length + T.length ≤ 4096) (hR : ab_R (EM l D cI old N0 (n + T.length)) (hp ol A B C F (xs_ (X ++ T)) (xs_ T')) U H) : ab_R (EM l D cI old N0 n) (hp ol A B C F (xs_ X) (xs_ (T ++ T'))) U H := by
  have hc := mg_caps (m := 0) hR
  obtain ⟨g1, ⟨tl, g2, g3, g3e⟩, g4, g5, g6⟩ := hR
  have e2 : xs_ T' = tl := Option.some.inj g2
  have s1 : (EM l D cI old N0 n).caps.sum = 44 + n := by show 20 + (5 + (10 + (9 + (n + 0)))) = _; omega
  have s2 : (EM l D cI old N0 (n + T.length)).caps.sum = 44 + n + T.length := by show 20 + (5 + (10 + (9 + (n + T.length + 0)))) = _; omega
  have lt : tl.length = T'.length := by rw [← e2, xs_len]
  refine ⟨mg_cp ⟨hc.1, hc.2.1, hc.2.2.1, hc.2.2.2.1, by rw [xs_len, hX]⟩, ⟨_, rfl, ?_, fun z => ?_⟩, rfl, fun r c h0 hg => ?_, fun r c h0 hg => ?_⟩
  · show N0 + (EM l D cI old N0 n).caps.sum + (xs_ (T ++ T')).length ≤ H.size
    have g : N0 + (EM l D cI old N0 (n + T.length)).caps.sum + tl.length ≤ H.size := g3
    rw [s2, lt] at g
    rw [s1, xs_len, List.length_append]
    omega
  · show H.size = N0 + (EM l D cI old N0 n).caps.sum + (xs_ (T ++ T')).length
    have g : H.size = N0 + (EM l D cI old N0 (n + T.length)).caps.sum + tl.length := g3e z
    rw [s2, lt] at g
    rw [s1, xs_len, List.length_append]
    omega
  · have hlow : ab_low c := by
      rcases mg_seg h0 hg hl with ⟨q, h⟩ | ⟨q, h⟩ | ⟨q, h⟩
      · exact h
      · exact xs_low c (List.mem_of_getElem? h)
      · exact xs_low c (List.mem_of_getElem? h)
    rw [mg_cell (n := n) (n' := n + T.length) hlow]
    rcases mg_seg h0 hg hl with ⟨q, -⟩ | ⟨q, h⟩ | ⟨q, h⟩
    · rw [mg_adr (n := n) (n' := n + T.length) (by omega)]
      exact g5 r c h0 (by rw [← hg]; exact mg_get q)
    · obtain ⟨i, hi⟩ : ∃ i, r % 4096 = i := ⟨_, rfl⟩
      rw [hi] at h
      have er : r = 20480 + i := by omega
      subst er
      rw [mg_a5 (by omega)]
      have hx : i < X.length := by rw [← xs_len (X := X)]; exact (List.getElem?_eq_some_iff.mp h).1
      have := g5 (20480 + i) c (by omega) (mg_ge (by omega) (by rw [xs_app, List.getElem?_append_left (by rw [xs_len]; exact hx)]; exact h))
      rwa [mg_a5 (by omega)] at this
    · obtain ⟨i, hi⟩ : ∃ i, r % 4096 = i := ⟨_, rfl⟩
      rw [hi] at h
      have er : r = 24576 + i := by omega
      subst er
      rw [mg_a6 (by omega)]
      rw [xs_app] at h
      by_cases q1 : i < T.length
      · rw [List.getElem?_append_left (by rw [xs_len]; exact q1)] at h
        have := g5 (20480 + (X.length + i)) c (by omega) (mg_ge (by omega) (by rw [xs_app, List.getElem?_append_right (by rw [xs_len]; omega), xs_len, Nat.add_sub_cancel_left]; exact h))
        rw [mg_a5 (by omega)] at this
        rwa [show N0 + 44 + (X.length + i) = N0 + 44 + n + i by omega] at this
      · rw [List.getElem?_append_right (by rw [xs_len]; omega), xs_len] at h
        have := g5 (24576 + (i - T.length)) c (by omega) (mg_gt (by omega) h)
        rw [mg_a6 (by omega)] at this
        rwa [show N0 + 44 + (n + T.length) + (i - T.length) = N0 + 44 + n + i by omega] at this
  · obtain ⟨k, f, f1, f2, f3⟩ := g6 r c h0 (mg_old h0 hg)
    exact ⟨k, f, f1, by rw [mg_a0 (n' := n + T.length) h0]; exact f2, by rw [mg_a0 (n' := n + T.length) h0]; exact f3⟩
theorem mg_SF {U : State} (h : ab_SF (EM l D cI old N0 n) U) : ab_SF (EM l D cI old N0 n') U := by
  obtain ⟨h1, h2⟩ := h
  refine ⟨fun q hq => ?_, h2⟩
  have := h1 q hq
  have h3 : q.2.2.2 / 4096 = 0 := by
    simp [ab_stF] at hq
    rcases hq with rfl | rfl <;> rfl
  rw [mg_a0 (n' := n) h3]
  exact this
/-- a callee that makes things, over things made before -/
theorem ct_mg {M : AM} {d : Nat} {av : List Value} {k : Int32} {ol A B C F A' B' C' F' : List AC} {X T T' : List (Nat × (Nat → Int32))} {mc ms : Nat} (hl : ab_lows A B C F) (hl' : ab_lows A' B' C' F') (hav : ∀ v ∈ av, ab_lowv v) (hX : X.length = n) (hlen : X.length + T.length ≤ 4096) (hc : CT (EM l D cI old N0 (n + T.length)) M d av (hp ol A B C F (xs_ (X ++ T)) []) (.inl (some (.int k))) (hp ol A' B' C' F' (xs_ (X ++ T)) (xs_ T')) mc ms) : CT (EM l D cI old N0 n) M d av (hp ol A B C F (xs_ X) (xs_ T)) (.inl (some (.int k))) (hp ol A' B' C' F' (xs_ X) (xs_ (T ++ T'))) mc ms := by
  intro p e ha hcs hk s m args below hf happ hP hK
  have hP' : ab_Pc (EM l D cI old N0 (n + T.length)) av (hp ol A B C F (xs_ (X ++ T)) []) args s := by
    obtain ⟨q0, q1, q2, q3, q4, q5⟩ := hP
    refine ⟨?_, mg_in hl q1, q2, mg_SF q3, q4, q5⟩
    rw [q0, List.map_congr_left (fun v hv => mg_v (hav v hv))]
  obtain ⟨n9, oc, h1, h2, h3, h4⟩ := hc p e ha hcs hk s m args below hf happ hP' hK
  refine ⟨n9, oc, h1, h2, h3, ?_⟩
  rcases h4 with ⟨⟨r, hr, ho, hR, hF⟩, L, hfe⟩ | ⟨q, ho, En, ce, L, ⟨hz, -⟩, -⟩
  · cases hr
    exact Or.inl ⟨⟨some (.int k), rfl, ho, mg_out hl' hX hlen hR, hF⟩, L, hfe⟩
  · cases hz
end MERGE
theorem low_ar {T K : Nat → Nat → Int32} {os sc : Int32} : ∀ c ∈ ar T K os sc, ab_low c := by
  intro c hc
  simp only [ar, List.mem_cons, List.not_mem_nil, or_false] at hc
  rcases hc with rfl | rfl | rfl | rfl | rfl | rfl | rfl | rfl | rfl | rfl | rfl | rfl | rfl | rfl | rfl | rfl | rfl | rfl | rfl | rfl <;> first | trivial | (intro v hv; simp only [List.mem_cons, List.not_mem_nil, or_false] at hv; rcases hv with rfl | rfl | rfl | rfl | rfl | rfl | rfl | rfl <;> first | trivial | (show (_ : Nat) < 24576; decide)) | (intro v hv; simp only [List.mem_cons, List.not_mem_nil, or_false] at hv; rcases hv with rfl | rfl | rfl | rfl <;> first | trivial | (show (_ : Nat) < 24576; decide)) | (intro v hv; simp only [List.mem_cons, List.not_mem_nil, or_false] at hv; rcases hv with rfl | rfl | rfl <;> first | trivial | (show (_ : Nat) < 24576; decide))
theorem low_te {tc tp : Nat → Int32} {tl_ tn trd tv tdg tf tla : Int32} : ∀ c ∈ te_ tc tp tl_ tn trd tv tdg tf tla, ab_low c := by
  intro c hc
  simp only [te_, List.mem_cons, List.not_mem_nil, or_false] at hc
  rcases hc with rfl | rfl | rfl | rfl | rfl <;> first | trivial | (intro v hv; simp only [List.mem_cons, List.not_mem_nil, or_false] at hv; rcases hv with rfl | rfl | rfl | rfl | rfl | rfl | rfl | rfl | rfl <;> first | trivial | (show (_ : Nat) < 24576; decide)) | (intro v hv; simp only [List.mem_cons, List.not_mem_nil, or_false] at hv; rcases hv with rfl | rfl | rfl | rfl <;> first | trivial | (show (_ : Nat) < 24576; decide))
theorem low_pl {pg ph pc : Nat → Int32} {pm : Int32} : ∀ c ∈ pl pg ph pc pm, ab_low c := by
  intro c hc
  simp only [pl, List.mem_cons, List.not_mem_nil, or_false] at hc
  rcases hc with rfl | rfl | rfl | rfl | rfl | rfl | rfl | rfl | rfl | rfl <;> first | trivial | (intro v hv; simp only [List.mem_cons, List.not_mem_nil, or_false] at hv; rcases hv with rfl | rfl | rfl | rfl <;> first | trivial | (show (_ : Nat) < 24576; decide))
theorem low_la {vo ls ln lb cr ca lo st cc : Nat → Int32} : ∀ c ∈ la_ vo ls ln lb cr ca lo st cc, ab_low c := by
  intro c hc
  simp only [la_, List.mem_cons, List.not_mem_nil, or_false] at hc
  rcases hc with rfl | rfl | rfl | rfl | rfl | rfl | rfl | rfl | rfl <;> trivial
theorem lows_ {T K : Nat → Nat → Int32} {os sc : Int32} {tc tp : Nat → Int32} {tl_ tn trd tv tdg tf tla : Int32} {pg ph pc : Nat → Int32} {pm : Int32} {vo ls ln lb cr ca lo st cc : Nat → Int32} : ab_lows (ar T K os sc) (te_ tc tp tl_ tn trd tv tdg tf tla) (pl pg ph pc pm) (la_ vo ls ln lb cr ca lo st cc) := ⟨low_ar, low_te, low_pl, low_la⟩
