section START
def R_law : String := "LeafCradlesLaw"
def lw_P (b : Addr) (xs : List Int32) (args : Array Value) (s : State) : Prop := args = #[.ref b] ∧ s.IntsAt b xs ∧ xs.length ≤ 260 ∧ (Jvm.Cond.and given_1 narrow_1).before args s = true
/-- what a walk over the start with the record d0 says of its end, said of the start itself -/
theorem lw_closed {s t : State} {o : Outcome} {d0 : Drawn} {L : List Loc} {k n : Nat} (hd0 : s.drawn.sameBut d0 lw_cs) (hv : ∃ v, o = .returned v) (hW : (s.setDrawn d0).WarmedH t.vm) (hs : (s.setDrawn d0).sameButNew ({ t with vm := s.vm } : State) L k n) : State.butDraws s t lw_cs (fun t1 => Framed s o t1 L k n) := by
  have h2 : t.drawn = d0 := congrArg State.drawn hs.1
  refine ⟨⟨hv, hW, State.sameButNew.setDrawn hs s.drawn⟩, ?_, by decide⟩
  rw [h2]
  exact hd0
def lw_Q (_ : Array Value) (s : State) (o : Outcome) (t : State) : Prop := o = .returned (some (.int 1)) ∧ State.butDraws s t lw_cs (fun t1 => Framed s o t1 [] 600104 7301314)
def lw_Z (below : List Frame) (a : Array Value) (s : State) : State → Prop := fun t => ∃ o, t.status = .running ∧ Ended t below o ∧ lw_Q a s o t
/-- what holds at the law's entry: the machine, the code, the tables' words (any of lw_tbl by 'hts w (by decide +kernel)'), the script of L ints xs at the cell b, what the Statement gives of the start (any of its parts by flat_of_before) -/
def lw_At (p : Program) (s : State) (m : MethodId) (meth : Method) (c : Code) (b L : Nat) (xs : Nat → Int32) : Prop :=
  p.tables.exec = Jvm.exec ∧ c.code = code ∧ meth.sig.returnType = ret ∧ c.maxLocals = 15 ∧ s.vm.findClass R_law = some m.cls ∧ (∀ w ∈ lw_tbl, w.before #[Value.ref b] s = true) ∧ va_X b L xs s s.heap ∧ b < s.heap.size ∧ meth.locks = false ∧ (Jvm.Cond.and given_1 narrow_1).before #[Value.ref b] s = true
/-! the start of the small machine, out of what the Statement gives -/
theorem st_strs : (ab_strs.all fun q => decide (q.1 = "LeafCradles") && decide (Cond.stringRef q.1 q.2.1 q.2.2 ∈ lw_tbl)) = true := by decide +kernel
theorem st_nest : (ab_nest.all fun q => decide (Cond.methodLinkNest "LeafCradles" q.1 q.2 "LeafCradles" ∈ lw_tbl)) = true := by decide +kernel
theorem st_exs : (ab_exs.all fun q => decide (Cond.castable q q ∈ lw_tbl)) = true := by decide +kernel
theorem st_decls : (ab_decls.all fun q => decide (Cond.declares q ∈ lw_tbl)) = true := by decide +kernel
theorem st_nc : (ab_nc.all fun q => decide (Cond.not (.castable q.1 q.2) ∈ flatC (Jvm.Cond.and given_1 narrow_1))) = true := by decide +kernel
def st_t (n : String) : Term := .static "LeafCradles" n "[I"
def st_given (n : String) (f : Nat → Int32) : Bool := decide (Cond.arrayOf (st_t n) .int ∈ flatC (Jvm.Cond.and given_1 narrow_1)) && decide (Cond.eq (.length (st_t n)) (.int 4) ∈ flatC (Jvm.Cond.and given_1 narrow_1)) && ([0, 1, 2, 3].all fun j => decide (Cond.eq (.elem (st_t n) (.int (Int32.ofNat j))) (.int (f j)) ∈ flatC (Jvm.Cond.and given_1 narrow_1)))
theorem st_lset : st_given "LEAST_SETTING" lsS = true := by decide +kernel
theorem st_gset : st_given "GREATEST_SETTING" gsS = true := by decide +kernel
theorem st_stat {n : String} {f : Nat → Int32} (hg : st_given n f = true) {args : Array Value} {s : State} (hs : ∀ w ∈ flatC (Jvm.Cond.and given_1 narrow_1), w.before args s = true) : ∃ t : Nat, (st_t n).eval args s none [] s = some (.ref t) ∧ ab_X t 4 f s s.heap ∧ t < s.heap.size := by
  simp only [st_given, Bool.and_eq_true, decide_eq_true_eq] at hg
  obtain ⟨⟨h1, h2⟩, h3⟩ := hg
  have hel : ∀ j : Nat, j < 4 → (Term.elem (st_t n) (.int (Int32.ofNat j))).eval args s none [] s = some (.int (f j)) := by
    intro j hj
    have hm : j ∈ [0, 1, 2, 3] := by
      rcases (show j = 0 ∨ j = 1 ∨ j = 2 ∨ j = 3 by omega) with rfl | rfl | rfl | rfl <;> simp
    exact va_eqt (hs _ (of_decide_eq_true (List.all_eq_true.mp h3 j hm)))
  obtain ⟨t, ht, cell, k1, k2, k3, k4, k5, k6, k7⟩ := va_Tof (A := fun q => s.heap.size ≤ q) (N := 4) (by decide) (hs _ h1) (va_eqt (hs _ h2)) hel (fun a ha => Nat.not_le.mpr ha)
  exact ⟨t, ht, ⟨cell, k1, k2, k3, k4, k5, k6⟩, (Array.getElem?_eq_some_iff.mp k1).1⟩
theorem sbn_nil {s s' : State} {L : List Loc} {k n : Nat} (h : s.sameButNew s' L k n) (hL : ∀ z ∈ L, s.heap.size ≤ z.base) : s.sameButNew s' [] k n := by
  obtain ⟨a1, a2, a3, a4, a5, a6⟩ := h
  refine ⟨a1, a2, a3, a4, a5, fun a c hc => ?_⟩
  obtain ⟨c', q1, q2, q3, q4⟩ := a6 a c hc
  refine ⟨c', q1, q2, q3, fun i _ => q4 i (fun hm => ?_)⟩
  have h1 := hL _ hm
  have h2 : a < s.heap.size := (Array.getElem?_eq_some_iff.mp hc).1
  exact absurd h1 (Nat.not_le.mpr h2)
theorem QL_fin {s t : State} {below : List Frame} {args : Array Value} (h : QL s.heap.size below args s 600104 7301314 t) : lw_Z below args s t := by
  obtain ⟨o, h1, h2, h3⟩ := h
  refine ⟨o, h1, h2, ?_⟩
  rcases h3 with ⟨ho, L, ⟨f1, f2, f3⟩, hL⟩ | ⟨q, ho, En, ce, L, hx, -⟩
  · have e : s.setDrawn s.drawn = s := rfl
    exact ⟨ho, lw_closed (d0 := s.drawn) (Drawn.sameBut.refl s.drawn lw_cs) f1 (by rw [e]; exact f2) (by rw [e]; exact sbn_nil f3 hL)⟩
  · exact hx.elim
set_option maxHeartbeats 4000000 in
set_option maxRecDepth 100000 in
theorem whole_start {p : Program} {e : Env} {s : State} {m : MethodId} {below : List Frame} {meth : Method} {c : Code} (l : Launch) (hflags : l.flags = flags0) {b L : Nat} {xs : Nat → Int32} (hL : L ≤ 260) (C0 : lw_At p s m meth c b L xs) (hnm : meth.name = "law") (het : c.exceptionTable.toList = []) : W p l e room_1 s m #[Value.ref b] below meth c s.heap [] 0 0 (lw_Z below #[Value.ref b] s) (entryFrame m ([Value.ref b] : List Value).toArray 15) := by
  obtain ⟨hx, hb, hr, hml, hown, hts, hX, hbl, hlocks, hgv⟩ := id C0
  have hs := flat_of_before _ hgv
  have hW : ∀ w ∈ ab_W, w.before #[Value.ref b] s = true := fun w hw => hts w (List.mem_filter.mp hw).1
  have hA : ∀ a : Nat, a < s.heap.size → ¬ s.heap.size ≤ a := fun a h => Nat.not_le.mpr h
  obtain ⟨c0, i0, k0⟩ := u_known (C := RX0) (T := TX0) (N := 8) (n := 8) hW (ab_cls 0 RX0 TX0 8 rfl).1 (hW _ (ab_cls 0 RX0 TX0 8 rfl).2.1)
  obtain ⟨c1, i1, k1⟩ := u_known (C := RX1) (T := TX1) (N := 9) (n := 9) hW (ab_cls 1 RX1 TX1 9 rfl).1 (hW _ (ab_cls 1 RX1 TX1 9 rfl).2.1)
  obtain ⟨c2, i2, k2⟩ := u_known (C := RX2) (T := TX2) (N := 4) (n := 4) hW (ab_cls 2 RX2 TX2 4 rfl).1 (hW _ (ab_cls 2 RX2 TX2 4 rfl).2.1)
  obtain ⟨c3, i3, k3⟩ := u_known (C := RX3) (T := TX3) (N := 4) (n := 4) hW (ab_cls 3 RX3 TX3 4 rfl).1 (hW _ (ab_cls 3 RX3 TX3 4 rfl).2.1)
  obtain ⟨c4, i4, k4⟩ := u_known (C := RX4) (T := TX4) (N := 3) (n := 3) hW (ab_cls 4 RX4 TX4 3 rfl).1 (hW _ (ab_cls 4 RX4 TX4 3 rfl).2.1)
  obtain ⟨dC, dI, hKc⟩ : ∃ (dC : Nat → ClassId) (dI : Nat → Nat → Nat), ∀ (k : Nat) (q : vw_C), vwCl[k]? = some q → u_Kn s q.1 q.2.1 q.2.2 (dC k) (dI k) := by
    refine ⟨fun k => if k = 0 then c0 else if k = 1 then c1 else if k = 2 then c2 else if k = 3 then c3 else c4, fun k => if k = 0 then i0 else if k = 1 then i1 else if k = 2 then i2 else if k = 3 then i3 else i4, ?_⟩
    intro k q hq
    match k, hq with
    | 0, hq => cases hq; exact k0
    | 1, hq => cases hq; exact k1
    | 2, hq => cases hq; exact k2
    | 3, hq => cases hq; exact k3
    | 4, hq => cases hq; exact k4
    | k + 5, hq => simp [vwCl] at hq
  obtain ⟨cI, kI, compI, nI1, nI2, nI3⟩ := Cond.arrayClass_spec (hW (.arrayClass .int) (ab_at_mem (i := 84) (by decide +kernel)))
  obtain ⟨t1, e1, x1, y1⟩ := st_stat st_lset hs
  obtain ⟨t2, e2, x2, y2⟩ := st_stat st_gset hs
  obtain ⟨old, hold⟩ : ∃ old : Nat → Nat, old = fun i => if i = 0 then b else if i = 1 then t1 else t2 := ⟨_, rfl⟩
  have o0 : old 0 = b := by rw [hold]; rfl
  have o1 : old 1 = t1 := by rw [hold]; rfl
  have o2 : old 2 = t2 := by rw [hold]; rfl
  have hcI : s.vm.findClass "[I" = some cI := nI1
  have hcL : s.vm.findClass "LeafCradles" = some c4 := k4.2.1
  have hK : va_K (dC, dI) vwCl [(cI, .int)] s := by
    refine ⟨hKc, fun k q hq => ?_⟩
    match k, hq with
    | 0, hq => cases hq; exact ⟨fun n z => ⟨fun k h => (by cases h), kI, nI2, compI, nI3⟩, nI1⟩
    | k + 1, hq => simp at hq
  have ad0 : ab_adr (EC l (dC, dI) cI old s.heap.size) 0 = b := o0
  have ad1 : ab_adr (EC l (dC, dI) cI old s.heap.size) 1 = t1 := o1
  have ad2 : ab_adr (EC l (dC, dI) cI old s.heap.size) 2 = t2 := o2
  have hSF : ab_SF (EC l (dC, dI) cI old s.heap.size) s := by
    refine ⟨fun q hq => ?_, ?_, ?_, fun q hq => ?_, fun q hq => ?_, fun q hq => ?_, ?_, Nat.le_refl _, fun q hq => ?_, fun q hq => ?_⟩
    · have hq' : q = ("LeafCradles", "LEAST_SETTING", "[I", 1) ∨ q = ("LeafCradles", "GREATEST_SETTING", "[I", 2) := by simpa [ab_stF] using hq
      rcases hq' with rfl | rfl
      · exact va_Zof (hts (.laysStatic "LeafCradles" "LEAST_SETTING" "[I") (by decide +kernel)) (hts (.initialized "LeafCradles") (by decide +kernel)) (by rw [ad1]; exact e1) hA
      · exact va_Zof (hts (.laysStatic "LeafCradles" "GREATEST_SETTING" "[I") (by decide +kernel)) (hts (.initialized "LeafCradles") (by decide +kernel)) (by rw [ad2]; exact e2) hA
    · exact vx_Zqof (hts _ (by decide +kernel)) (hts _ (by decide +kernel)) (hs _ (by decide +kernel)) hA
    · exact vx_Zqof (hts _ (by decide +kernel)) (hts _ (by decide +kernel)) (hs _ (by decide +kernel)) hA
    · have h1 := List.all_eq_true.mp st_strs q hq
      rw [Bool.and_eq_true, decide_eq_true_eq, decide_eq_true_eq] at h1
      obtain ⟨k, cf, i, a, -, -, -, -, -, hev⟩ := Cond.stringRef_spec (by rw [h1.1]; exact hcL) (hts _ h1.2)
      exact ⟨a, vk_R.of (hts _ h1.2) hev⟩
    · exact va_Nc.of (hs _ (of_decide_eq_true (List.all_eq_true.mp st_nc q hq)))
    · exact va_Nw.of rfl (hts _ (of_decide_eq_true (List.all_eq_true.mp st_nest q hq)))
    · show l.stackTraces = false
      unfold Launch.stackTraces
      rw [hflags]
      decide +kernel
    · exact ab_Cs.of (hts _ (of_decide_eq_true (List.all_eq_true.mp st_exs q hq)))
    · exact va_Nw.of rfl (hts _ (of_decide_eq_true (List.all_eq_true.mp st_decls q hq)))
  have hR : ab_R (EC l (dC, dI) cI old s.heap.size) [ol_ xs L lsS gsS, []] s s.heap := by
    refine ⟨fun j n hn => ?_, ⟨[], rfl, Nat.le_refl _, fun _ => rfl⟩, rfl, fun r c h0 hg => ?_, fun r c h0 hg => ?_⟩
    · have h9 : ([] : List Nat)[j]? = some n := hn
      simp at h9
    · obtain ⟨s', q1, q2⟩ := ab_get_some hg
      obtain ⟨j, ej⟩ : ∃ j, r / 4096 = j + 1 := ⟨r / 4096 - 1, by omega⟩
      rw [ej] at q1
      match j, q1 with
      | 0, q1 =>
        cases q1
        simp at q2
      | j + 1, q1 => simp at q1
    · obtain ⟨s', q1, q2⟩ := ab_get_some hg
      rw [h0] at q1
      cases q1
      have ea : ab_adr (EC l (dC, dI) cI old s.heap.size) r = old (r % 4096) := by
        unfold ab_adr
        rw [if_pos h0]
      rw [ea]
      generalize r % 4096 = i at q2
      match i, q2 with
      | 0, q2 =>
        cases q2
        refine ⟨L, xs, rfl, by rw [o0]; exact hbl, ?_⟩
        obtain ⟨scr, z1, z2, z3, z4, z5⟩ := hX
        rw [o0]
        exact ⟨scr, z1, z2, z3, by omega, by rw [z4]; try rfl, z5⟩
      | 1, q2 =>
        cases q2
        exact ⟨4, lsS, rfl, by rw [o1]; exact y1, by rw [o1]; exact x1⟩
      | 2, q2 =>
        cases q2
        exact ⟨4, gsS, rfl, by rw [o2]; exact y2, by rw [o2]; exact x2⟩
      | i + 3, q2 => simp [ol_] at q2
  have hl := ab_entry (EC l (dC, dI) cI old s.heap.size) [.ref 0] (n := 15) (by decide)
  have eav : [Value.ref 0].map (ab_v (EC l (dC, dI) cI old s.heap.size)) = [Value.ref b] := by
    show [Value.ref (ab_adr (EC l (dC, dI) cI old s.heap.size) 0)] = _
    rw [ad0]
  rw [eav] at hl
  rw [lg_entry_eq]
  have hgo := law_ap (l := l) (D := (dC, dI)) (cI := cI) (old := old) (N0 := s.heap.size) (sx := xs) (sl := L) (Nat.le_trans hL (by decide)) p e room_1 s m #[Value.ref b] below meth c s.heap [] 0 0 _ 600104 7301314 ⟨hx, hb, hml, hr, hown, hW, hlocks, hnm, het, hK, hSF, by decide, by decide, hcI, hcI⟩ hR va_S.rf hl (by decide) (by decide) (by decide) (by decide)
  intro T hT X
  obtain ⟨t, a1, a2⟩ := hgo T hT X
  exact ⟨t, a1, QL_fin a2⟩
end START
