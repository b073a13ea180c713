def ab_Cs (C : String) (U : State) : Prop := ∃ c : ClassId, U.vm.findClass C = some c ∧ U.vm.assignable c c = true
theorem ab_Cs.moved {C : String} {u U : State} (hvm : u.vm.Alike U.vm) (h : ab_Cs C u) : ab_Cs C U := by
  obtain ⟨c, h1, h2⟩ := h
  exact ⟨c, by rw [hvm.findClass]; exact h1, by rw [hvm.assignable]; exact h2⟩
theorem ab_Cs.word {C : String} {args : Array Value} {s : State} (h : ab_Cs C s) : (Cond.castable C C).before args s = true := by
  obtain ⟨c, h1, h2⟩ := h
  simp [Cond.before, Cond.holds, Cond.value, h1, h2]
theorem ab_Cs.of {C : String} {args : Array Value} {s : State} (h : (Cond.castable C C).before args s = true) : ab_Cs C s := by
  obtain ⟨c3, c4, hc3, hc4, hasg⟩ := Cond.castable_spec h
  cases hc3.symm.trans hc4
  exact ⟨c3, hc3, hasg⟩
/-- what holds of the state's statics, strings, classes' kinship -/
def ab_SF (E : AE) (U : State) : Prop :=
  (∀ q ∈ ab_stF, va_Z q.1 q.2.1 q.2.2.1 (.ref (ab_adr E q.2.2.2)) (ab_A E) U U.heap) ∧ vx_Zq Bundle.tN "UNASSIGNED_STACK" Bundle.steD (ab_A E) U U.heap ∧ vx_Zq Bundle.tN "SUPPRESSED_SENTINEL" Bundle.listD (ab_A E) U U.heap ∧
  (∀ q ∈ ab_strs, ∃ sa, vk_R q.1 q.2.1 q.2.2 sa U) ∧ (∀ q ∈ ab_nc, va_Nc q.1 q.2 U) ∧ (∀ q ∈ ab_nest, va_Nw (.methodLinkNest "LeafCradles" q.1 q.2 "LeafCradles") U) ∧ E.l.stackTraces = false ∧ E.N0 ≤ U.heap.size ∧ (∀ q ∈ ab_exs, ab_Cs q U) ∧ (∀ q ∈ ab_decls, va_Nw (.declares q) U)
theorem ab_SF.moved {E : AE} {s U : State} {H : Heap} {locs : List Loc} (h : ab_SF E s) (hW : s.WarmedH U.vm) (hS : va_S (ab_A E) s.heap H locs) (hU : U.heap = H) : ab_SF E U := by
  obtain ⟨h1, h2, h3, h4, h5, h6, h7, h8, h9, h10⟩ := h
  refine ⟨fun q hq => ?_, ?_, ?_, fun q hq => ?_, fun q hq => ?_, fun q hq => ?_, h7, ?_, fun q hq => (h9 q hq).moved hW.alike, fun q hq => va_Nw.warmD hW (h10 q hq)⟩
  · rw [hU]; exact va_Z.moved hW.alike ((h1 q hq).kept hS.2.1)
  · rw [hU]; exact vx_Zq.moved hW.alike (h2.kept hS.2.1)
  · rw [hU]; exact vx_Zq.moved hW.alike (h3.kept hS.2.1)
  · obtain ⟨sa, h⟩ := h4 q hq
    exact ⟨sa, vk_R.warm hW h⟩
  · exact va_Nc.moved hW.alike (h5 q hq)
  · exact va_Nw.warmM hW (h6 q hq)
  · rw [hU]; exact Nat.le_trans h8 hS.1
def ab_Ctx (E : AE) (M : AM) (d : Nat) (p : Program) (R : Room) (s : State) (m : MethodId) (args : Array Value) (meth : Method) (c : Code) : Prop :=
  p.tables.exec = Jvm.exec ∧ c.code = M.bytes ∧ c.maxLocals = M.maxL ∧ meth.sig.returnType = M.ret ∧ s.vm.findClass M.own = some m.cls ∧ (∀ w ∈ ab_W, w.before args s = true) ∧ meth.locks = false ∧ meth.name = M.y.name ∧
  c.exceptionTable.toList = tableOf M.hh ∧ va_K E.D vwCl (ab_tys E) s ∧ ab_SF E s ∧ d + 8 ≤ R.frames ∧ 50 * d + 200 ≤ R.locals ∧ s.vm.findClass "[I" = some E.cI ∧ s.vm.findClass "[I" = some E.cI
def ab_lvs (E : AE) (L : AL) : List (Nat × Value) := L.zipIdx.filterMap (fun q => q.1.map (fun v => (q.2, ab_v E v)))
theorem ab_lvs_mem {E : AE} {L : AL} {q : Nat × Value} : q ∈ ab_lvs E L ↔ ∃ v, L[q.1]? = some (some v) ∧ q.2 = ab_v E v := by
  unfold ab_lvs
  rw [List.mem_filterMap]
  constructor
  · rintro ⟨⟨o, i⟩, h1, h2⟩
    rw [List.mem_zipIdx_iff_getElem?] at h1
    cases o with
    | none => simp at h2
    | some v => simp at h2; subst h2; exact ⟨v, h1, rfl⟩
  · rintro ⟨v, h1, h2⟩
    refine ⟨(some v, q.1), by rw [List.mem_zipIdx_iff_getElem?]; exact h1, ?_⟩
    simp only [Option.map_some]
    rw [← h2]
theorem ab_has_of {ls : Array Slot} {n : Nat} {l l' : List (Nat × Value)} (h : lv_has ls n l) (hs : ∀ q ∈ l', q ∈ l) : lv_has ls n l' := ⟨h.1, h.2.1, fun q hq => h.2.2 q (hs q hq)⟩
theorem ab_has_at {E : AE} {ls : Array Slot} {n : Nat} {L : AL} (h : lv_has ls n (ab_lvs E L)) {a : Nat} {v : Value} (hv : L[a]? = some (some v)) : ls[a]? = some (.val (ab_v E v)) := h.2.2 (a, ab_v E v) (ab_lvs_mem.mpr ⟨v, hv, rfl⟩)
theorem ab_cat_v (E : AE) (v : Value) : (ab_v E v).category = v.category := by cases v <;> rfl
theorem ab_clr_get (L : AL) (a j : Nat) (v : Value) (h : (ab_clr L a)[j]? = some (some v)) : L[j]? = some (some v) ∧ ¬ (j + 1 = a ∧ v.category = 2) := by
  cases a with
  | zero => exact ⟨h, by omega⟩
  | succ a =>
    simp only [ab_clr] at h
    split at h
    · by_cases e : j = a
      · subst e
        rw [List.getElem?_set] at h
        split at h
        · split at h <;> simp at h
        · exact absurd rfl (by assumption)
      · rw [List.getElem?_set_ne (fun z => e z.symm)] at h
        exact ⟨h, by omega⟩
    · by_cases e : j = a
      · subst e
        rw [List.getElem?_set] at h
        split at h
        · split at h <;> simp at h
        · exact absurd rfl (by assumption)
      · rw [List.getElem?_set_ne (fun z => e z.symm)] at h
        exact ⟨h, by omega⟩
    · rename_i h1 h2
      refine ⟨h, ?_⟩
      rintro ⟨e, hc⟩
      have e' : j = a := by omega
      subst e'
      cases v with
      | long z => exact h1 z h
      | double z => exact h2 z h
      | _ => simp [Value.category] at hc
theorem ab_put1_has {E : AE} {ls : Array Slot} {n : Nat} {L : AL} {a : Nat} {v : Value} (h : lv_has ls n ((a, ab_v E v) :: (ab_lvs E L).filter (fun q => !(q.1 == a) && !(q.1 + 1 == a && q.2.category == 2)))) : lv_has ls n (ab_lvs E (ab_put1 L a v)) := by
  refine ab_has_of h fun q hq => ?_
  obtain ⟨w, h1, h2⟩ := ab_lvs_mem.mp hq
  unfold ab_put1 at h1
  by_cases e : q.1 = a
  · rw [e, List.getElem?_set] at h1
    split at h1
    · split at h1
      · cases h1
        rw [show q = (q.1, q.2) from rfl, e, h2]
        exact List.mem_cons_self
      · cases h1
    · exact absurd rfl (by assumption)
  · rw [List.getElem?_set_ne (fun z => e z.symm)] at h1
    obtain ⟨g1, g2⟩ := ab_clr_get L a q.1 w h1
    refine List.mem_cons_of_mem _ (List.mem_filter.mpr ⟨ab_lvs_mem.mpr ⟨w, g1, h2⟩, ?_⟩)
    rw [h2, ab_cat_v]
    simp [e]
    omega
theorem ab_put2_has {E : AE} {ls : Array Slot} {n : Nat} {L : AL} {a : Nat} {v : Value} (h : lv_has ls n ((a, ab_v E v) :: (ab_lvs E L).filter (fun q => !(q.1 == a) && (!(q.1 == a + 1) && !(q.1 + 1 == a && q.2.category == 2))))) : lv_has ls n (ab_lvs E (ab_put2 L a v)) := by
  refine ab_has_of h fun q hq => ?_
  obtain ⟨w, h1, h2⟩ := ab_lvs_mem.mp hq
  unfold ab_put2 at h1
  by_cases e0 : q.1 = a + 1
  · rw [e0, List.getElem?_set] at h1
    split at h1
    · split at h1 <;> cases h1
    · exact absurd rfl (by assumption)
  · rw [List.getElem?_set_ne (fun z => e0 z.symm)] at h1
    by_cases e : q.1 = a
    · rw [e, List.getElem?_set] at h1
      split at h1
      · split at h1
        · cases h1
          rw [show q = (q.1, q.2) from rfl, e, h2]
          exact List.mem_cons_self
        · cases h1
      · exact absurd rfl (by assumption)
    · rw [List.getElem?_set_ne (fun z => e z.symm)] at h1
      obtain ⟨g1, g2⟩ := ab_clr_get L a q.1 w h1
      refine List.mem_cons_of_mem _ (List.mem_filter.mpr ⟨ab_lvs_mem.mpr ⟨w, g1, h2⟩, ?_⟩)
      rw [h2, ab_cat_v]
      simp [e, e0]
      omega
/-- how a method ends: with an answer, or with an exception of a class -/
abbrev AR0 : Type := Option Value ⊕ String
def ab_Qc (E : AE) (o : AR0) (h' : AH) : Array Value → State → Outcome → State → Prop := fun _ st oc t => ∃ r, o = .inl r ∧ oc = .returned (r.map (ab_v E)) ∧ ab_R E h' t t.heap ∧ va_F (ab_A E) st t
def ab_Xc (E : AE) (o : AR0) (h' : AH) : String → State → State → Prop := fun En st t => o = .inr En ∧ ab_R E h' t t.heap ∧ va_F (ab_A E) st t
/-- from here (pc, locals, stack, heap) the method M comes to its end o, h' -/
def AR (E : AE) (M : AM) (d pc : Nat) (L : AL) (st : List Value) (h : AH) (o : AR0) (h' : AH) (mc ms : Nat) : Prop :=
  ∀ (p : Program) (e : Env) (R : Room) (s : State) (m : MethodId) (args : Array Value) (below : List Frame) (meth : Method) (c : Code) (H : Heap) (locs : List Loc) (cells slots : Nat) (ls : Array Slot) (mcT msT : Nat),
    ab_Ctx E M d p R s m args meth c → ab_R E h s H → va_S (ab_A E) s.heap H locs → lv_has ls M.maxL (ab_lvs E L) → cells + mc ≤ mcT → slots + ms ≤ msT → mcT ≤ R.cells → msT ≤ R.slots →
    W p E.l e R s m args below meth c H locs cells slots (vx_MQ below (ab_Qc E o h') (ab_Xc E o h') args s mcT msT (ab_A E)) (F0 m pc ls (st.map (ab_v E)))
theorem ab_R.moved {E : AE} {h : AH} {u U : State} {H : Heap} (hvm : u.vm.Alike U.vm) (hR : ab_R E h u H) : ab_R E h U H := by
  obtain ⟨g1, g2, g4, g5, g6⟩ := hR
  refine ⟨g1, g2, g4, g5, fun q d q0 hq => ?_⟩
  obtain ⟨n, f, f1, f2, f3⟩ := g6 q d q0 hq
  exact ⟨n, f, f1, f2, ab_X.moved hvm f3⟩
theorem ab_all_cons {p : Prop} {ps : List Prop} (h : ab_all (p :: ps)) : p ∧ ab_all ps := by
  cases ps with
  | nil => exact ⟨h, trivial⟩
  | cons q r => exact h
theorem ab_all_app : ∀ {ps qs : List Prop}, ab_all (ps ++ qs) → ab_all ps ∧ ab_all qs
  | [], qs, h => ⟨trivial, h⟩
  | p :: ps, qs, h => by
    obtain ⟨h1, h2⟩ := ab_all_cons (ps := ps ++ qs) h
    obtain ⟨h3, h4⟩ := ab_all_app h2
    refine ⟨?_, h4⟩
    cases ps with
    | nil => exact h1
    | cons q r => exact ⟨h1, h3⟩
