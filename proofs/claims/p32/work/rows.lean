section
/-! ===== BEGIN words of one list among another's, by their places ===== -/
theorem goodIn_r {big : List Cond} (ws : List Cond) (ps : List Nat) (hp : ws = ps.filterMap (fun i => big[i]?)) (h : ws.all goodWord = true) : GoodIn big ws := by
  intro w hw
  have h1 := List.all_eq_true.mp h w hw
  rw [hp] at hw
  obtain ⟨i, -, hi⟩ := List.mem_filterMap.mp hw
  have hm : w ∈ big := by first | exact List.mem_of_getElem? hi | exact List.getElem?_mem hi
  exact ⟨hm, good_of_word h1⟩
theorem goodIn_app {big a b : List Cond} (ha : GoodIn big a) (hb : GoodIn big b) : GoodIn big (a ++ b) := fun w h => (List.mem_append.mp h).elim (ha w) (hb w)
theorem goodIn_ca {big a b : List Cond} {c : Cond} (ha : GoodIn big (c :: a)) (hb : GoodIn big b) : GoodIn big (c :: (a ++ b)) := fun w h => (List.mem_cons.mp h).elim (fun e => ha w (List.mem_cons.mpr (Or.inl e))) (fun h => (List.mem_append.mp h).elim (fun h => ha w (List.mem_cons.mpr (Or.inr h))) (hb w))
theorem goodIn_sub {big ws : List Cond} (hm : ∀ w ∈ ws, w ∈ big) (h : ws.all goodWord = true) : GoodIn big ws := fun w hw => ⟨hm w hw, good_of_word (List.all_eq_true.mp h w hw)⟩
/-! ===== END ===== -/
/-! ===== BEGIN exceptions that leave a method, and their catching by the caller (launches without stack traces) ===== -/
section VXA
/-! The laws vx_back, vx_callV, vx_callS, vx_callSW, vx_throw0, vx_throwS follow proofs of the library, with one case more: JvmDerived/Free/Laws.lean (Back.of_free), Shelf42/LK1.lean (callV, callS), Shelf/KitTraced.lean (throwNew0V, throwNewS). -/
/-- where a method has thrown q: the class by its name, the cell, what was written, the world -/
def vx_T (XC : String → State → State → Prop) (st : State) (q : Addr) (t : State) (mc ms : Nat) (free : Addr → Prop) : Prop :=
  ∃ (E : String) (ce : Cell) (L : List Loc), XC E st t ∧ t.heap[q]? = some ce ∧ ce.vm = .none ∧ st.vm.findClass E = some ce.cls ∧ st.WarmedH t.vm ∧ st.sameButNew ({ t with vm := st.vm } : State) L mc ms ∧ ∀ z ∈ L, free z.base
def vx_Q (Qc : Array Value → State → Outcome → State → Prop) (XC : String → State → State → Prop) (mc ms : Nat) (free : Addr → Prop) : Array Value → State → Outcome → State → Prop := fun a st o t =>
  (Qc a st o t ∧ ∃ L, FrameEnd st o t L mc ms ∧ ∀ q ∈ L, free q.base) ∨ ∃ q, o = .threw q ∧ vx_T XC st q t mc ms free
/-- a callee that returns or throws -/
def vx_Met (l : Launch) (y : MethodName) (ws : List Cond) (rm : Room) (Pc : Array Value → State → Prop) (Qc : Array Value → State → Outcome → State → Prop) (XC : String → State → State → Prop) (mc ms : Nat) (free : Addr → Prop) : Prop :=
  MetFree l y (headSpec ws rm) Pc (fun _ _ _ _ _ => True) (vx_Q Qc XC mc ms free)
def vx_Post (XC : String → State → State → Prop) (mc ms : Nat) (free : Addr → Prop) : Pt → Array Value → Addr → Pt → Prop := fun A a q B =>
  ∃ (g : JFrame) (mk : MethodId) (t : State) (L : List Loc) (E : String) (ce : Cell), B.U.heap = t.heap ∧ B.U.vm = t.vm ∧ XC E (A.U.calling g mk a) t ∧ t.heap[q]? = some ce ∧ ce.vm = .none ∧ A.U.vm.findClass E = some ce.cls ∧ B.locs = A.locs ++ L ∧ (∀ z ∈ L, free z.base) ∧ B.cells = A.cells + mc ∧ B.slots = A.slots + ms
def vx_Back (l : Launch) (R : Room) (p : Program) (e : Env) (below : List Frame) (s : State) (sargs : Array Value) (y : MethodName) (len W9 : Nat)
    (Pre : Pt → Array Value → Prop) (Post : Pt → Array Value → Option Value → Pt → Prop) (PostX : Pt → Array Value → Addr → Pt → Prop) : Prop :=
  ∀ (m : MethodId) (meth : Method) (c : Code) (A : Pt) (g : JFrame) (ig : Instr) (mk : MethodId) (a : Array Value),
    Stand p l e R s m sargs below meth c A.U A.locs A.cells A.slots → g.method = m → g.locals.size = c.maxLocals → decode c.code g.pc = .ok (ig, len) →
    2 * g.monitorRoom + (g.stack.map fun v => v.category).sum ≤ W9 → A.U.methodNamed? y = some mk → Pre A a →
    (∃ (v : Option Value) (B : Pt), Stand p l e R s m sargs below meth c B.U B.locs B.cells B.slots ∧ Post A a v B ∧
      Steps p.tables e below (doInvoke e (A.U.setTop g) [] mk a).1 (B.U.setTop { g with pc := g.pc + len, stack := v.toList ++ g.stack })) ∨
    (∃ (q : Addr) (B : Pt), Stand p l e R s m sargs below meth c B.U B.locs B.cells B.slots ∧ PostX A a q B ∧
      Steps p.tables e below (doInvoke e (A.U.setTop g) [] mk a).1 ((B.U.setTop g).pushFrame (.throwing q)))
section Payer
variable {l : Launch} {R : Room} {p : Program} {e : Env} {below : List Frame} {s : State} {sargs : Array Value} {y : MethodName} {len W9 : Nat}
theorem vx_back {ws : List Cond} {rm : Room} {Pc : Array Value → State → Prop} {Qc : Array Value → State → Outcome → State → Prop} {XC : String → State → State → Prop} {mc ms : Nat} {free : Addr → Prop} {bytes : ByteArray} {maxL : Nat} {ret : Option FieldType}
    (hM : vx_Met l y ws rm Pc Qc XC mc ms free) (hblind : FrameBlind Pc) (hrc : rm.cells = mc) (hrs : rm.slots = ms)
    (hframes : rm.frames + 1 ≤ R.frames) (hlocals : W9 + (maxL + 11) + rm.locals ≤ R.locals)
    (hws : ∀ w ∈ ws, ∀ a' U, s.WarmedH U.vm → w.before a' U = true) (hcode : Cond.code y bytes maxL ret ∈ ws) (hinit : ∀ a' U, s.WarmedH U.vm → (Cond.initialized y.cls).before a' U = true) :
    vx_Back l R p e below s sargs y len W9 (PreOf R mc ms Pc) (PostOf Qc mc ms free) (vx_Post XC mc ms free) := by
  intro m meth c A g ig mk a X hg hsize hdg hW hn hp
  have h1 : (headSpec ws rm).pre.before a A.U = true := atoms_intro fun w hw => hws w hw _ _ X.warmed
  have h2 : (Cond.code y bytes maxL ret).before a A.U = true := hws _ hcode _ _ X.warmed
  have h3 : (Cond.initialized y.cls).before a A.U = true := hinit _ _ X.warmed
  have h4 : A.cells + (headSpec ws rm).room.cells ≤ R.cells := by rw [show (headSpec ws rm).room.cells = mc from hrc]; exact hp.1
  have h5 : A.slots + (headSpec ws rm).room.slots ≤ R.slots := by rw [show (headSpec ws rm).room.slots = ms from hrs]; exact hp.2.1
  have hPc : Pc a (A.U.calling g mk a) := hblind _ _ _ _ hp.2.2
  obtain ⟨U, Ls, c0, s0⟩ := A
  dsimp only [Pt.U, Pt.locs, Pt.cells, Pt.slots] at h1 h2 h3 h4 h5 X hn hPc ⊢
  obtain ⟨methY, cY, hmY, hcY, -, hlY, -, -, -, -⟩ := Cond.code_spec hn h2
  obtain ⟨kY, hkY, -⟩ := className_of_methodNamed hn
  have hinitY : kY.init = .initialized := Cond.initialized_spec (findClass_of_methodNamed hn) hkY h3
  have h : At U g.method c below := by rw [hg]; exact X.here
  have hlocals9 : W9 + (maxL + 11) + (headSpec ws rm).room.locals ≤ R.locals := hlocals
  have happ : (headSpec ws rm).appliesLoose y e.platform (U.calling g mk a) = true :=
    Spec.appliesLoose_calling (g := g) h hdg hn hkY hinitY
      (X.room_calling (g := g) (R' := (headSpec ws rm).room) hsize hmY hcY hframes (by rw [hlY]; omega) h4 h5) h1
  obtain ⟨mid, hmid⟩ := h.above
  have hfr : (U.setTop g).frames = (.java g :: mid) ++ below := by rw [State.frames_setTop' g h.top, hmid]; rfl
  obtain ⟨o, s₂, hsteps, -, hend, hq⟩ := Steps.callFree hM p X.admits X.cas X.clock (acts := []) hfr happ hPc trivial
  have hq' : vx_Q Qc XC mc ms free a (U.calling g mk a) o s₂ := hq
  rw [State.frames_setTop' g h.top] at hend
  obtain ⟨g₀, hg0⟩ := Option.isSome_iff_exists.mp h.top
  obtain ⟨r, hr⟩ := State.topJava?_eq_some.mp hg0
  have hr' : (({ U with heap := s₂.heap, slotsUsed := s₂.slotsUsed } : State).setVm s₂.vm).frames = .java g₀ :: r := hr
  rcases hq' with ⟨hqc, L, hfe, hL⟩ | ⟨q, rfl, E, ce, L, hx, hce, hcv, hcl, hW₂, hsm, hL⟩
  · obtain ⟨⟨v, rfl⟩, hW₂, e2, q2, q3, q4, q5, q6⟩ := id hfe
    have e3 : s₂ = ({ (U.calling g mk a).setFrames s₂.frames with heap := s₂.heap, slotsUsed := s₂.slotsUsed } : State).setVm s₂.vm := by
      have : s₂ = ({ s₂ with vm := (U.calling g mk a).vm } : State).setVm s₂.vm := rfl
      rw [e2] at this
      exact this
    obtain ⟨c₂, i₂, len₂, hc₂, hd₂, hf₂⟩ := hend
    have hW' : U.WarmedH s₂.vm := hW₂
    have hcc : c₂ = c := by
      have h1 : s₂.code? g.method = U.code? g.method := by
        rw [State.code?_eq, State.code?_eq, hW'.alike.method?]
      exact Option.some.inj (hc₂.symm.trans (h1.trans h.code))
    subst hcc
    have hlen : len₂ = len := by rw [hdg] at hd₂; cases hd₂; rfl
    subst hlen
    have hs₂ : s₂ = (({ U with heap := s₂.heap, slotsUsed := s₂.slotsUsed } : State).setVm s₂.vm).setTop { g with pc := g.pc + len₂, stack := v.toList ++ g.stack } := by
      refine e3.trans ?_
      rw [hf₂, State.calling_eq h.top, State.setFrames_setFrames, State.setTop_of_frames _ hr', hr]
      rfl
    have hsame : U.sameButNew ({ U with heap := s₂.heap, slotsUsed := s₂.slotsUsed } : State) L mc ms := by
      refine ⟨?_, q2, q3, q4, q5, q6⟩
      obtain ⟨t, ht, -⟩ := State.frames_cons hr
      show ({ U with heap := s₂.heap, slotsUsed := s₂.slotsUsed } : State) = { U.setFrames U.frames with heap := s₂.heap, slotsUsed := s₂.slotsUsed }
      rw [State.setFrames_self ht]
    subst hg
    refine Or.inl ⟨v, ⟨(({ U with heap := s₂.heap, slotsUsed := s₂.slotsUsed } : State).setVm s₂.vm), Ls ++ L, c0 + mc, s0 + ms⟩,
      ⟨X.admits, X.cas, X.clock, X.frames, X.room, X.hears, X.method, X.code, (X.here.setHeapUsed s₂.heap s₂.slotsUsed).setVm hW'.alike, X.tail, State.WarmedH.trans X.warmed hW', X.limits, X.bytes, X.same.trans (hsame.setVm s.vm)⟩,
      ⟨g, mk, s₂, L, rfl, rfl, hqc, rfl, hL, rfl, rfl⟩, ?_⟩
    show Steps p.tables e below _ ((({ U with heap := s₂.heap, slotsUsed := s₂.slotsUsed } : State).setVm s₂.vm).setTop { g with pc := g.pc + len₂, stack := v.toList ++ g.stack })
    rw [← hs₂]
    exact hsteps
  · obtain ⟨e2, q2, q3, q4, q5, q6⟩ := id hsm
    have e3 : s₂ = ({ (U.calling g mk a).setFrames s₂.frames with heap := s₂.heap, slotsUsed := s₂.slotsUsed } : State).setVm s₂.vm := by
      have : s₂ = ({ s₂ with vm := (U.calling g mk a).vm } : State).setVm s₂.vm := rfl
      rw [e2] at this
      exact this
    have hf₂ : s₂.frames = .throwing q :: .java g :: U.frames.tail := hend
    have hW' : U.WarmedH s₂.vm := hW₂
    have hs₂ : s₂ = ((({ U with heap := s₂.heap, slotsUsed := s₂.slotsUsed } : State).setVm s₂.vm).setTop g).pushFrame (.throwing q) := by
      refine e3.trans ?_
      rw [hf₂, State.calling_eq h.top, State.setFrames_setFrames, State.pushFrame, State.frames_setTop _ hr', State.setTop_of_frames _ hr', State.setFrames_setFrames, hr]
      rfl
    have hsame : U.sameButNew ({ U with heap := s₂.heap, slotsUsed := s₂.slotsUsed } : State) L mc ms := by
      refine ⟨?_, q2, q3, q4, q5, q6⟩
      obtain ⟨t, ht, -⟩ := State.frames_cons hr
      show ({ U with heap := s₂.heap, slotsUsed := s₂.slotsUsed } : State) = { U.setFrames U.frames with heap := s₂.heap, slotsUsed := s₂.slotsUsed }
      rw [State.setFrames_self ht]
    subst hg
    refine Or.inr ⟨q, ⟨(({ U with heap := s₂.heap, slotsUsed := s₂.slotsUsed } : State).setVm s₂.vm), Ls ++ L, c0 + mc, s0 + ms⟩,
      ⟨X.admits, X.cas, X.clock, X.frames, X.room, X.hears, X.method, X.code, (X.here.setHeapUsed s₂.heap s₂.slotsUsed).setVm hW'.alike, X.tail, State.WarmedH.trans X.warmed hW', X.limits, X.bytes, X.same.trans (hsame.setVm s.vm)⟩,
      ⟨g, mk, s₂, L, E, ce, rfl, rfl, hx, hce, hcv, hcl, rfl, hL, rfl, rfl⟩, ?_⟩
    show Steps p.tables e below _ (((({ U with heap := s₂.heap, slotsUsed := s₂.slotsUsed } : State).setVm s₂.vm).setTop g).pushFrame (.throwing q))
    rw [← hs₂]
    exact hsteps
end Payer
section Calls
variable {p : Program} {l : Launch} {e : Env} {R : Room} {s : State} {m : MethodId} {args : Array Value} {below : List Frame} {meth : Method} {c : Code} {T : State} {locs : List Loc} {cells slots : Nat}
theorem vx_callV (X : Stand p l e R s m args below meth c T locs cells slots) (hexec : p.tables.exec = Jvm.exec) {own C : String} {index : Nat} {y : MethodName} {bytes : ByteArray} {maxL : Nat} {ret : Option FieldType}
    (hown : s.vm.findClass own = some m.cls) (hlink : (Cond.methodLink own index y).before args s = true) (hinst : (Cond.instanceMethod y).before args s = true) (hsel : (Cond.selects C y y).before args s = true)
    (hcode : (Cond.code y bytes maxL ret).before args s = true) (hy : y.cls ≠ "java/lang/invoke/MethodHandle" ∧ y.cls ≠ "java/lang/invoke/VarHandle")
    {W9 : Nat} {Pre : Pt → Array Value → Prop} {Post : Pt → Array Value → Option Value → Pt → Prop} {PostX : Pt → Array Value → Addr → Pt → Prop} (hK : vx_Back l R p e below s args y 3 W9 Pre Post PostX)
    {b : Addr} {cellB : Cell} (hcell : T.heap[b]? = some cellB) (hobj : cellB.vm.isStatics = false) (hcls : s.vm.findClass C = some cellB.cls)
    {g : JFrame} (hg : g.method = m) (hsize : g.locals.size = c.maxLocals) {argsL rest : List Value} (hlen : ∀ sig, parseMethodDescriptor y.desc = some sig → argsL.length = sig.parameters.length)
    (hstack : g.stack = argsL.reverse ++ .ref b :: rest) (hW : 2 * g.monitorRoom + (rest.map fun v => v.category).sum ≤ W9) (hdg : decode c.code g.pc = .ok (.invokevirtual index, 3))
    (hpre : ∀ vm₁, s.WarmedH vm₁ → Pre ⟨T.setVm vm₁, locs, cells, slots⟩ (Value.ref b :: argsL).toArray) :
    (∃ (v : Option Value) (vm₁ : Vm) (B : Pt), s.WarmedH vm₁ ∧ Stand p l e R s m args below meth c B.U B.locs B.cells B.slots ∧ Post ⟨T.setVm vm₁, locs, cells, slots⟩ (Value.ref b :: argsL).toArray v B ∧
      ∀ target, Steps p.tables e below (B.U.setTop { g with pc := g.pc + 3, stack := v.toList ++ rest }) target → Steps p.tables e below (T.setTop g) target) ∨
    (∃ (q : Addr) (vm₁ : Vm) (B : Pt), s.WarmedH vm₁ ∧ Stand p l e R s m args below meth c B.U B.locs B.cells B.slots ∧ PostX ⟨T.setVm vm₁, locs, cells, slots⟩ (Value.ref b :: argsL).toArray q B ∧
      Steps p.tables e below (T.setTop g) ((B.U.setTop { g with stack := rest }).pushFrame (.throwing q))) := by
  obtain ⟨mk, methM, hnamed, hmethM, hstM, habM⟩ := Cond.instanceMethod_spec hinst
  obtain ⟨methM', cM, hmethM', -, -, -, -, -, -, hsigM⟩ := Cond.code_spec hnamed hcode
  cases hmethM.symm.trans hmethM'
  obtain ⟨c2, r2, m2, q1, q2, q3, q4, kP, hkP, hkPi⟩ := Cond.selects_spec hsel
  cases hcls.symm.trans q1
  cases (State.methodFound?_of_named hnamed hy).symm.trans q2
  cases hnamed.symm.trans q3
  have hselP : selectMethod e.platform s.vm cellB.cls mk = .method mk := by rw [Launch.admits_selectMethod X.admits]; exact q4
  obtain ⟨vm₁, X₁, hstep₁⟩ := X.invokevirtual hexec hown hlink hnamed hmethM hstM hkP hkPi hy (a := b) (cell := cellB) hcell
    (fun z h => by rw [h] at hobj; cases hobj) hselP hmethM habM hkP hkPi (g := g) hg (argsL := argsL) (rest := rest) (hlen _ hsigM) hstack hdg
  rcases hK m meth c ⟨T.setVm vm₁, locs, cells, slots⟩ { g with stack := rest } (.invokevirtual index) mk (Value.ref b :: argsL).toArray X₁ hg hsize hdg hW (X₁.named hnamed) (hpre vm₁ X₁.warmed) with ⟨v, B, X', hpost, hsteps⟩ | ⟨q, B, X', hpost, hsteps⟩
  · exact Or.inl ⟨v, vm₁, B, X₁.warmed, X', hpost, fun target h => hstep₁ _ fun acts => by rw [doInvoke_state]; exact hsteps.trans h⟩
  · exact Or.inr ⟨q, vm₁, B, X₁.warmed, X', hpost, hstep₁ _ fun acts => by rw [doInvoke_state]; exact hsteps⟩
theorem vx_callS (X : Stand p l e R s m args below meth c T locs cells slots) (hexec : p.tables.exec = Jvm.exec) {own : String} {index : Nat} {y : MethodName} {bytes : ByteArray} {maxL : Nat} {ret : Option FieldType}
    (hown : s.vm.findClass own = some m.cls) (hlink : (Cond.methodLink own index y).before args s = true) (hstat : (Cond.static y).before args s = true) (hinit : (Cond.initialized y.cls).before args s = true)
    (hcode : (Cond.code y bytes maxL ret).before args s = true) (hy : y.cls ≠ "java/lang/invoke/MethodHandle" ∧ y.cls ≠ "java/lang/invoke/VarHandle")
    {W9 : Nat} {Pre : Pt → Array Value → Prop} {Post : Pt → Array Value → Option Value → Pt → Prop} {PostX : Pt → Array Value → Addr → Pt → Prop} (hK : vx_Back l R p e below s args y 3 W9 Pre Post PostX)
    {g : JFrame} (hg : g.method = m) (hsize : g.locals.size = c.maxLocals) {argsL rest : List Value} (hlen : ∀ sig, parseMethodDescriptor y.desc = some sig → argsL.length = sig.parameters.length)
    (hstack : g.stack = argsL.reverse ++ rest) (hW : 2 * g.monitorRoom + (rest.map fun v => v.category).sum ≤ W9) (hdg : decode c.code g.pc = .ok (.invokestatic index, 3))
    (hpre : ∀ vm₁, s.WarmedH vm₁ → Pre ⟨T.setVm vm₁, locs, cells, slots⟩ argsL.toArray) :
    (∃ (v : Option Value) (vm₁ : Vm) (B : Pt), s.WarmedH vm₁ ∧ Stand p l e R s m args below meth c B.U B.locs B.cells B.slots ∧ Post ⟨T.setVm vm₁, locs, cells, slots⟩ argsL.toArray v B ∧
      ∀ target, Steps p.tables e below (B.U.setTop { g with pc := g.pc + 3, stack := v.toList ++ rest }) target → Steps p.tables e below (T.setTop g) target) ∨
    (∃ (q : Addr) (vm₁ : Vm) (B : Pt), s.WarmedH vm₁ ∧ Stand p l e R s m args below meth c B.U B.locs B.cells B.slots ∧ PostX ⟨T.setVm vm₁, locs, cells, slots⟩ argsL.toArray q B ∧
      Steps p.tables e below (T.setTop g) ((B.U.setTop { g with stack := rest }).pushFrame (.throwing q))) := by
  obtain ⟨mk, hnamed⟩ := Cond.code_named hcode
  obtain ⟨methM, cM, hmethM, -, -, -, -, -, -, hsigM⟩ := Cond.code_spec hnamed hcode
  have hstatic : methM.isStatic = true := Cond.static_spec hnamed hmethM hstat
  obtain ⟨kP, hkP, -⟩ := className_of_methodNamed hnamed
  have hinitP : kP.init = .initialized := Cond.initialized_spec (findClass_of_methodNamed hnamed) hkP hinit
  obtain ⟨vm₁, X₁, hstep₁⟩ := X.invokestatic hexec hown hlink hnamed hmethM hstatic hkP hinitP hy (g := g) hg (argsL := argsL) (rest := rest) (hlen _ hsigM) hstack hdg
  rcases hK m meth c ⟨T.setVm vm₁, locs, cells, slots⟩ { g with stack := rest } (.invokestatic index) mk argsL.toArray X₁ hg hsize hdg hW (X₁.named hnamed) (hpre vm₁ X₁.warmed) with ⟨v, B, X', hpost, hsteps⟩ | ⟨q, B, X', hpost, hsteps⟩
  · exact Or.inl ⟨v, vm₁, B, X₁.warmed, X', hpost, fun target h => hstep₁ _ fun acts => by rw [doInvoke_state]; exact hsteps.trans h⟩
  · exact Or.inr ⟨q, vm₁, B, X₁.warmed, X', hpost, hstep₁ _ fun acts => by rw [doInvoke_state]; exact hsteps⟩
end Calls
theorem vx_cls {s : State} {T : State} {vm₁ : Vm} {E : String} {k : ClassId} (hW : s.WarmedH vm₁) (h : (T.setVm vm₁).vm.findClass E = some k) : s.vm.findClass E = some k := by
  have h1 : vm₁.findClass E = some k := h
  rw [hW.alike.findClass] at h1
  exact h1
/-- the method's frame g, with q thrown over it -/
def vx_W (p : Program) (l : Launch) (e : Env) (R : Room) (s : State) (m : MethodId) (args : Array Value) (below : List Frame) (meth : Method) (c : Code) (H : Heap) (locs : List Loc) (cells slots : Nat) (Q : State → Prop) (g : JFrame) (q : Addr) : Prop :=
  ∀ T : State, T.heap = H → Stand p l e R s m args below meth c T locs cells slots → ∃ t, Steps p.tables e below ((T.setTop g).pushFrame (.throwing q)) t ∧ Q t
def vx_Run (p : Program) (l : Launch) (e : Env) (R : Room) (s : State) (m : MethodId) (args : Array Value) (below : List Frame) (meth : Method) (c : Code) (H : Heap) (locs : List Loc) (cells slots mc ms : Nat) (g : JFrame) (rest : List Value) (Qa : State → Outcome → State → Prop) (XC : String → State → State → Prop) (free : Addr → Prop) : Prop :=
  ∀ T : State, T.heap = H → Stand p l e R s m args below meth c T locs cells slots →
    (∃ (v : Option Value) (st₀ t T' : State) (L : List Loc), st₀.heap = H ∧ Stand p l e R s m args below meth c T' (locs ++ L) (cells + mc) (slots + ms) ∧ (∀ q ∈ L, free q.base) ∧ T'.heap = t.heap ∧ T'.vm = t.vm ∧ Qa st₀ (.returned v) t ∧
      Goes p e below T g T' { g with pc := g.pc + 3, stack := v.toList ++ rest }) ∨
    (∃ (q : Addr) (st₀ t T' : State) (L : List Loc) (E : String) (ce : Cell), st₀.heap = H ∧ Stand p l e R s m args below meth c T' (locs ++ L) (cells + mc) (slots + ms) ∧ (∀ z ∈ L, free z.base) ∧ T'.heap = t.heap ∧ T'.vm = t.vm ∧ XC E st₀ t ∧ t.heap[q]? = some ce ∧ ce.vm = .none ∧ s.vm.findClass E = some ce.cls ∧
      Steps p.tables e below (T.setTop g) ((T'.setTop { g with stack := rest }).pushFrame (.throwing q)))
def vx_X {S : Type} (px : S → Prop) (B : String → S → State → Prop) (A : Nat → Prop) : String → State → State → Prop := fun E st t => ∃ u : S, px u ∧ B E u t ∧ va_F A st t
section Runs
variable {p : Program} {l : Launch} {e : Env} {R : Room} {s : State} {m : MethodId} {args : Array Value} {below : List Frame} {meth : Method} {c : Code} {H : Heap} {locs : List Loc} {cells slots : Nat}
variable {y : MethodName} {bytes cc : ByteArray} {maxL nL mc ms n index : Nat} {ret : Option FieldType} {ws : List Cond} {rm : Room} {Pc : Array Value → State → Prop} {Qc : Array Value → State → Outcome → State → Prop} {XC : String → State → State → Prop} {free : Addr → Prop} {Ts : List Cond} {own C : String} {b : Addr} {As rest : List Value} {g : JFrame}
theorem vx_callBack (cb : CallB R s args own index y bytes maxL ret ws rm mc ms n) (hM : vx_Met l y ws rm Pc Qc XC mc ms free) (hbl : FrameBlind Pc) : vx_Back l R p e below s args y 3 8 (PreOf R mc ms Pc) (PostOf Qc mc ms free) (vx_Post XC mc ms free) := by
  obtain ⟨hrc, hrs, hfr, hlo, hws, hcw, -, hini, -⟩ := cb
  exact vx_back (bytes := bytes) (maxL := maxL) (ret := ret) hM hbl hrc hrs hfr hlo hws hcw (fun a' U hW => word_at hW (Or.inl (by first | rfl | simp [Cond.onTables, Cond.keeps, Cond.steady])) hini)
theorem vx_runV (S : CallFix p m c cc nL s args Ts own) (hM : vx_Met l y ws rm Pc Qc XC mc ms free) (cw : CallW R s args own C index y bytes maxL ret ws rm mc ms n) (hp : PreV s H C b Pc As)
    (hg : g.method = m) (hn : As.length = n) (hsize : g.locals.size = nL) (hstack : g.stack = As.reverse ++ .ref b :: rest) (hW : 2 * g.monitorRoom + (rest.map fun v => v.category).sum ≤ 8) (hdg : decode cc g.pc = .ok (.invokevirtual index, 3)) (hf : cells + mc ≤ R.cells ∧ slots + ms ≤ R.slots) :
    vx_Run p l e R s m args below meth c H locs cells slots mc ms g rest (Qc (Value.ref b :: As).toArray) XC free := by
  have hK : vx_Back l R p e below s args y 3 8 (PreOf R mc ms Pc) (PostOf Qc mc ms free) (vx_Post XC mc ms free) := vx_callBack cw.1 hM hp.1
  obtain ⟨⟨-, -, -, -, -, -, hcode, -, hy, hlen, hl⟩, hin, hse⟩ := cw
  obtain ⟨hx, hb, hml, ho, -⟩ := S
  obtain ⟨-, ⟨cellB, hcB, hoB, hclB⟩, hPc⟩ := hp
  intro T hT X
  rcases vx_callV X hx (C := C) (bytes := bytes) (maxL := maxL) (ret := ret) ho hl hin hse hcode hy hK (by rw [hT]; exact hcB) hoB hclB hg (hsize.trans hml.symm) (argsL := As) (rest := rest) (fun sig h => hn.trans (hlen sig h)) hstack hW (by rw [hb]; exact hdg)
    (fun vm₁ hW₁ => ⟨hf.1, hf.2, hPc (T.setVm vm₁) hT hW₁⟩) with ⟨v, vm₁, ⟨U', l2, c2, s2⟩, hW₁, X', ⟨g', mk, t, L, e1, e2, hq, h1, hL, h2, h3⟩, st⟩ | ⟨q, vm₁, ⟨U', l2, c2, s2⟩, hW₁, X', ⟨g', mk, t, L, E, ce, e1, e2, hq, hce, hcv, hcl, h1, hL, h2, h3⟩, st⟩
  · dsimp only [Pt.U, Pt.locs, Pt.cells, Pt.slots] at X' e1 e2 h1 h2 h3 st
    subst h1; subst h2; subst h3
    exact Or.inl ⟨v, (T.setVm vm₁).calling g' mk (Value.ref b :: As).toArray, t, U', L, hT, X', hL, e1, e2, hq, st⟩
  · dsimp only [Pt.U, Pt.locs, Pt.cells, Pt.slots] at X' e1 e2 h1 h2 h3 st hcl
    subst h1; subst h2; subst h3
    exact Or.inr ⟨q, (T.setVm vm₁).calling g' mk (Value.ref b :: As).toArray, t, U', L, E, ce, hT, X', hL, e1, e2, hq, hce, hcv, vx_cls hW₁ hcl, st⟩
theorem vx_runS (S : CallFix p m c cc nL s args Ts own) (hM : vx_Met l y ws rm Pc Qc XC mc ms free) (cw : CallB R s args own index y bytes maxL ret ws rm mc ms n ∧ (Cond.static y).before args s = true) (hp : PreS s H Pc As)
    (hg : g.method = m) (hn : As.length = n) (hsize : g.locals.size = nL) (hstack : g.stack = As.reverse ++ rest) (hW : 2 * g.monitorRoom + (rest.map fun v => v.category).sum ≤ 8) (hdg : decode cc g.pc = .ok (.invokestatic index, 3)) (hf : cells + mc ≤ R.cells ∧ slots + ms ≤ R.slots) :
    vx_Run p l e R s m args below meth c H locs cells slots mc ms g rest (Qc As.toArray) XC free := by
  have hK : vx_Back l R p e below s args y 3 8 (PreOf R mc ms Pc) (PostOf Qc mc ms free) (vx_Post XC mc ms free) := vx_callBack cw.1 hM hp.1
  obtain ⟨⟨-, -, -, -, -, -, hcode, hini, hy, hlen, hl⟩, hstt⟩ := cw
  obtain ⟨hx, hb, hml, ho, -⟩ := S
  intro T hT X
  rcases vx_callS X hx (bytes := bytes) (maxL := maxL) (ret := ret) ho hl hstt hini hcode hy hK hg (hsize.trans hml.symm) (argsL := As) (rest := rest) (fun sig h => hn.trans (hlen sig h)) hstack hW (by rw [hb]; exact hdg)
    (fun vm₁ hW₁ => ⟨hf.1, hf.2, hp.2 (T.setVm vm₁) hT hW₁⟩) with ⟨v, vm₁, ⟨U', l2, c2, s2⟩, hW₁, X', ⟨g', mk, t, L, e1, e2, hq, h1, hL, h2, h3⟩, st⟩ | ⟨q, vm₁, ⟨U', l2, c2, s2⟩, hW₁, X', ⟨g', mk, t, L, E, ce, e1, e2, hq, hce, hcv, hcl, h1, hL, h2, h3⟩, st⟩
  · dsimp only [Pt.U, Pt.locs, Pt.cells, Pt.slots] at X' e1 e2 h1 h2 h3 st
    subst h1; subst h2; subst h3
    exact Or.inl ⟨v, (T.setVm vm₁).calling g' mk As.toArray, t, U', L, hT, X', hL, e1, e2, hq, st⟩
  · dsimp only [Pt.U, Pt.locs, Pt.cells, Pt.slots] at X' e1 e2 h1 h2 h3 st hcl
    subst h1; subst h2; subst h3
    exact Or.inr ⟨q, (T.setVm vm₁).calling g' mk As.toArray, t, U', L, E, ce, hT, X', hL, e1, e2, hq, hce, hcv, vx_cls hW₁ hcl, st⟩
end Runs
section Rows
variable {p : Program} {l : Launch} {e : Env} {R : Room} {s : State} {m : MethodId} {args : Array Value} {below : List Frame} {meth : Method} {c : Code} {H : Heap} {locs : List Loc} {cells slots : Nat} {Q : State → Prop}
variable {mc ms : Nat} {free : Addr → Prop} {A0 A1 : Nat → Prop} {H0 : Heap} {a : Array Value} {pc : Nat} {ls : Array Slot} {st0 rest : List Value}
theorem vx_keep {st₀ t T' : State} {L : List Loc} (h0 : st₀.heap = H) (e1 : T'.heap = t.heap) (hS : va_S A0 H0 H locs) (hA : ∀ q, q < H.size → A1 q → A0 q) (hf : ∀ q, free q → A0 q) (hL : ∀ q ∈ L, free q.base) (hF : va_F A1 st₀ t) :
    H.size ≤ T'.heap.size ∧ (∀ q : Nat, q < H.size → ¬ A1 q → T'.heap[q]? = H[q]?) ∧ va_S A0 H0 T'.heap (locs ++ L) := by
  obtain ⟨hz, hk⟩ := hF
  rw [h0] at hz hk
  exact ⟨by rw [e1]; exact hz, fun q h1 h2 => by rw [e1]; exact hk q h1 h2,
    ⟨Nat.le_trans hS.1 (by rw [e1]; exact hz), fun q h1 h2 => by rw [e1, hk q (Nat.lt_of_lt_of_le h1 hS.1) (fun z => h2 (hA q (Nat.lt_of_lt_of_le h1 hS.1) z))]; exact hS.2.1 q h1 h2, fun q hq => by
      rcases List.mem_append.mp hq with h | h
      · exact hS.2.2 q h
      · exact hf _ (hL q h)⟩⟩
theorem vx_calli {S SX : Type} {post : Int32 → S → Prop} {px : SX → Prop} {B : S → State → Prop} {BX : String → SX → State → Prop} {AX : Nat → Prop} (hr : vx_Run p l e R s m args below meth c H locs cells slots mc ms (F0 m pc ls st0) rest (va_Qi post B A1 a) (vx_X px BX AX) free) (hS : va_S A0 H0 H locs) (hA : ∀ q, q < H.size → A1 q → A0 q) (hf : ∀ q, free q → A0 q) (hAX : ∀ q, q < H.size → AX q → A0 q)
    (kx : ∀ (E : String) (ce : Cell) (q9 : Addr) (u : SX) (t : State) (H1 : Heap) (locs1 : List Loc), t.heap = H1 → s.vm.Alike t.vm → px u → BX E u t → H.size ≤ H1.size → (∀ q : Nat, q < H.size → ¬ AX q → H1[q]? = H[q]?) → va_S A0 H0 H1 locs1 → H1[q9]? = some ce → ce.vm = .none → s.vm.findClass E = some ce.cls → vx_W p l e R s m args below meth c H1 locs1 (cells + mc) (slots + ms) Q (F0 m pc ls rest) q9)
    (kk : ∀ (r : Int32) (u : S) (t : State) (H1 : Heap) (locs1 : List Loc), t.heap = H1 → s.vm.Alike t.vm → post r u → B u t → H.size ≤ H1.size → (∀ q : Nat, q < H.size → ¬ A1 q → H1[q]? = H[q]?) → va_S A0 H0 H1 locs1 → W p l e R s m args below meth c H1 locs1 (cells + mc) (slots + ms) Q (F0 m (pc + 3) ls (.int r :: rest))) : W p l e R s m args below meth c H locs cells slots Q (F0 m pc ls st0) := by
  intro T hT X
  rcases hr T hT X with ⟨v, st₀, t, T', L, h0, X', hL, e1, e2, ⟨⟨r, u, hv, hp, hb⟩, hF⟩, st⟩ | ⟨q, st₀, t, T', L, E, ce, h0, X', hL, e1, e2, ⟨u, hp, hb, hF⟩, hce, hcv, hcl, st⟩
  · cases hv
    obtain ⟨k1, k2, k3⟩ := vx_keep h0 e1 hS hA hf hL hF
    obtain ⟨t2, a1, b1⟩ := kk r u t T'.heap (locs ++ L) e1.symm (by rw [← e2]; exact X'.warmed.alike) hp hb k1 k2 k3 T' rfl X'
    exact ⟨t2, st t2 a1, b1⟩
  · obtain ⟨k1, k2, k3⟩ := vx_keep h0 e1 hS hAX hf hL hF
    obtain ⟨t2, a1, b1⟩ := kx E ce q u t T'.heap (locs ++ L) e1.symm (by rw [← e2]; exact X'.warmed.alike) hp hb k1 k2 k3 (by rw [e1]; exact hce) hcv hcl T' rfl X'
    exact ⟨t2, st.trans a1, b1⟩
theorem vx_calll {S SX : Type} {post : Int64 → S → Prop} {px : SX → Prop} {B : S → State → Prop} {BX : String → SX → State → Prop} {AX : Nat → Prop} (hr : vx_Run p l e R s m args below meth c H locs cells slots mc ms (F0 m pc ls st0) rest (va_Ql post B A1 a) (vx_X px BX AX) free) (hS : va_S A0 H0 H locs) (hA : ∀ q, q < H.size → A1 q → A0 q) (hf : ∀ q, free q → A0 q) (hAX : ∀ q, q < H.size → AX q → A0 q)
    (kx : ∀ (E : String) (ce : Cell) (q9 : Addr) (u : SX) (t : State) (H1 : Heap) (locs1 : List Loc), t.heap = H1 → s.vm.Alike t.vm → px u → BX E u t → H.size ≤ H1.size → (∀ q : Nat, q < H.size → ¬ AX q → H1[q]? = H[q]?) → va_S A0 H0 H1 locs1 → H1[q9]? = some ce → ce.vm = .none → s.vm.findClass E = some ce.cls → vx_W p l e R s m args below meth c H1 locs1 (cells + mc) (slots + ms) Q (F0 m pc ls rest) q9)
    (kk : ∀ (r : Int64) (u : S) (t : State) (H1 : Heap) (locs1 : List Loc), t.heap = H1 → s.vm.Alike t.vm → post r u → B u t → H.size ≤ H1.size → (∀ q : Nat, q < H.size → ¬ A1 q → H1[q]? = H[q]?) → va_S A0 H0 H1 locs1 → W p l e R s m args below meth c H1 locs1 (cells + mc) (slots + ms) Q (F0 m (pc + 3) ls (.long r :: rest))) : W p l e R s m args below meth c H locs cells slots Q (F0 m pc ls st0) := by
  intro T hT X
  rcases hr T hT X with ⟨v, st₀, t, T', L, h0, X', hL, e1, e2, ⟨⟨r, u, hv, hp, hb⟩, hF⟩, st⟩ | ⟨q, st₀, t, T', L, E, ce, h0, X', hL, e1, e2, ⟨u, hp, hb, hF⟩, hce, hcv, hcl, st⟩
  · cases hv
    obtain ⟨k1, k2, k3⟩ := vx_keep h0 e1 hS hA hf hL hF
    obtain ⟨t2, a1, b1⟩ := kk r u t T'.heap (locs ++ L) e1.symm (by rw [← e2]; exact X'.warmed.alike) hp hb k1 k2 k3 T' rfl X'
    exact ⟨t2, st t2 a1, b1⟩
  · obtain ⟨k1, k2, k3⟩ := vx_keep h0 e1 hS hAX hf hL hF
    obtain ⟨t2, a1, b1⟩ := kx E ce q u t T'.heap (locs ++ L) e1.symm (by rw [← e2]; exact X'.warmed.alike) hp hb k1 k2 k3 (by rw [e1]; exact hce) hcv hcl T' rfl X'
    exact ⟨t2, st.trans a1, b1⟩
theorem vx_callf {S SX : Type} {post : UInt32 → S → Prop} {px : SX → Prop} {B : S → State → Prop} {BX : String → SX → State → Prop} {AX : Nat → Prop} (hr : vx_Run p l e R s m args below meth c H locs cells slots mc ms (F0 m pc ls st0) rest (va_Qf post B A1 a) (vx_X px BX AX) free) (hS : va_S A0 H0 H locs) (hA : ∀ q, q < H.size → A1 q → A0 q) (hf : ∀ q, free q → A0 q) (hAX : ∀ q, q < H.size → AX q → A0 q)
    (kx : ∀ (E : String) (ce : Cell) (q9 : Addr) (u : SX) (t : State) (H1 : Heap) (locs1 : List Loc), t.heap = H1 → s.vm.Alike t.vm → px u → BX E u t → H.size ≤ H1.size → (∀ q : Nat, q < H.size → ¬ AX q → H1[q]? = H[q]?) → va_S A0 H0 H1 locs1 → H1[q9]? = some ce → ce.vm = .none → s.vm.findClass E = some ce.cls → vx_W p l e R s m args below meth c H1 locs1 (cells + mc) (slots + ms) Q (F0 m pc ls rest) q9)
    (kk : ∀ (r : UInt32) (u : S) (t : State) (H1 : Heap) (locs1 : List Loc), t.heap = H1 → s.vm.Alike t.vm → post r u → B u t → H.size ≤ H1.size → (∀ q : Nat, q < H.size → ¬ A1 q → H1[q]? = H[q]?) → va_S A0 H0 H1 locs1 → W p l e R s m args below meth c H1 locs1 (cells + mc) (slots + ms) Q (F0 m (pc + 3) ls (.float r :: rest))) : W p l e R s m args below meth c H locs cells slots Q (F0 m pc ls st0) := by
  intro T hT X
  rcases hr T hT X with ⟨v, st₀, t, T', L, h0, X', hL, e1, e2, ⟨⟨r, u, hv, hp, hb⟩, hF⟩, st⟩ | ⟨q, st₀, t, T', L, E, ce, h0, X', hL, e1, e2, ⟨u, hp, hb, hF⟩, hce, hcv, hcl, st⟩
  · cases hv
    obtain ⟨k1, k2, k3⟩ := vx_keep h0 e1 hS hA hf hL hF
    obtain ⟨t2, a1, b1⟩ := kk r u t T'.heap (locs ++ L) e1.symm (by rw [← e2]; exact X'.warmed.alike) hp hb k1 k2 k3 T' rfl X'
    exact ⟨t2, st t2 a1, b1⟩
  · obtain ⟨k1, k2, k3⟩ := vx_keep h0 e1 hS hAX hf hL hF
    obtain ⟨t2, a1, b1⟩ := kx E ce q u t T'.heap (locs ++ L) e1.symm (by rw [← e2]; exact X'.warmed.alike) hp hb k1 k2 k3 (by rw [e1]; exact hce) hcv hcl T' rfl X'
    exact ⟨t2, st.trans a1, b1⟩
theorem vx_calld {S SX : Type} {post : UInt64 → S → Prop} {px : SX → Prop} {B : S → State → Prop} {BX : String → SX → State → Prop} {AX : Nat → Prop} (hr : vx_Run p l e R s m args below meth c H locs cells slots mc ms (F0 m pc ls st0) rest (va_Qd post B A1 a) (vx_X px BX AX) free) (hS : va_S A0 H0 H locs) (hA : ∀ q, q < H.size → A1 q → A0 q) (hf : ∀ q, free q → A0 q) (hAX : ∀ q, q < H.size → AX q → A0 q)
    (kx : ∀ (E : String) (ce : Cell) (q9 : Addr) (u : SX) (t : State) (H1 : Heap) (locs1 : List Loc), t.heap = H1 → s.vm.Alike t.vm → px u → BX E u t → H.size ≤ H1.size → (∀ q : Nat, q < H.size → ¬ AX q → H1[q]? = H[q]?) → va_S A0 H0 H1 locs1 → H1[q9]? = some ce → ce.vm = .none → s.vm.findClass E = some ce.cls → vx_W p l e R s m args below meth c H1 locs1 (cells + mc) (slots + ms) Q (F0 m pc ls rest) q9)
    (kk : ∀ (r : UInt64) (u : S) (t : State) (H1 : Heap) (locs1 : List Loc), t.heap = H1 → s.vm.Alike t.vm → post r u → B u t → H.size ≤ H1.size → (∀ q : Nat, q < H.size → ¬ A1 q → H1[q]? = H[q]?) → va_S A0 H0 H1 locs1 → W p l e R s m args below meth c H1 locs1 (cells + mc) (slots + ms) Q (F0 m (pc + 3) ls (.double r :: rest))) : W p l e R s m args below meth c H locs cells slots Q (F0 m pc ls st0) := by
  intro T hT X
  rcases hr T hT X with ⟨v, st₀, t, T', L, h0, X', hL, e1, e2, ⟨⟨r, u, hv, hp, hb⟩, hF⟩, st⟩ | ⟨q, st₀, t, T', L, E, ce, h0, X', hL, e1, e2, ⟨u, hp, hb, hF⟩, hce, hcv, hcl, st⟩
  · cases hv
    obtain ⟨k1, k2, k3⟩ := vx_keep h0 e1 hS hA hf hL hF
    obtain ⟨t2, a1, b1⟩ := kk r u t T'.heap (locs ++ L) e1.symm (by rw [← e2]; exact X'.warmed.alike) hp hb k1 k2 k3 T' rfl X'
    exact ⟨t2, st t2 a1, b1⟩
  · obtain ⟨k1, k2, k3⟩ := vx_keep h0 e1 hS hAX hf hL hF
    obtain ⟨t2, a1, b1⟩ := kx E ce q u t T'.heap (locs ++ L) e1.symm (by rw [← e2]; exact X'.warmed.alike) hp hb k1 k2 k3 (by rw [e1]; exact hce) hcv hcl T' rfl X'
    exact ⟨t2, st.trans a1, b1⟩
theorem vx_callv {S SX : Type} {post : S → Prop} {px : SX → Prop} {B : S → State → Prop} {BX : String → SX → State → Prop} {AX : Nat → Prop} (hr : vx_Run p l e R s m args below meth c H locs cells slots mc ms (F0 m pc ls st0) rest (va_Qv post B A1 a) (vx_X px BX AX) free) (hS : va_S A0 H0 H locs) (hA : ∀ q, q < H.size → A1 q → A0 q) (hf : ∀ q, free q → A0 q) (hAX : ∀ q, q < H.size → AX q → A0 q)
    (kx : ∀ (E : String) (ce : Cell) (q9 : Addr) (u : SX) (t : State) (H1 : Heap) (locs1 : List Loc), t.heap = H1 → s.vm.Alike t.vm → px u → BX E u t → H.size ≤ H1.size → (∀ q : Nat, q < H.size → ¬ AX q → H1[q]? = H[q]?) → va_S A0 H0 H1 locs1 → H1[q9]? = some ce → ce.vm = .none → s.vm.findClass E = some ce.cls → vx_W p l e R s m args below meth c H1 locs1 (cells + mc) (slots + ms) Q (F0 m pc ls rest) q9)
    (kk : ∀ (u : S) (t : State) (H1 : Heap) (locs1 : List Loc), t.heap = H1 → s.vm.Alike t.vm → post u → B u t → H.size ≤ H1.size → (∀ q : Nat, q < H.size → ¬ A1 q → H1[q]? = H[q]?) → va_S A0 H0 H1 locs1 → W p l e R s m args below meth c H1 locs1 (cells + mc) (slots + ms) Q (F0 m (pc + 3) ls (rest))) : W p l e R s m args below meth c H locs cells slots Q (F0 m pc ls st0) := by
  intro T hT X
  rcases hr T hT X with ⟨v, st₀, t, T', L, h0, X', hL, e1, e2, ⟨⟨u, hv, hp, hb⟩, hF⟩, st⟩ | ⟨q, st₀, t, T', L, E, ce, h0, X', hL, e1, e2, ⟨u, hp, hb, hF⟩, hce, hcv, hcl, st⟩
  · cases hv
    obtain ⟨k1, k2, k3⟩ := vx_keep h0 e1 hS hA hf hL hF
    obtain ⟨t2, a1, b1⟩ := kk u t T'.heap (locs ++ L) e1.symm (by rw [← e2]; exact X'.warmed.alike) hp hb k1 k2 k3 T' rfl X'
    exact ⟨t2, st t2 a1, b1⟩
  · obtain ⟨k1, k2, k3⟩ := vx_keep h0 e1 hS hAX hf hL hF
    obtain ⟨t2, a1, b1⟩ := kx E ce q u t T'.heap (locs ++ L) e1.symm (by rw [← e2]; exact X'.warmed.alike) hp hb k1 k2 k3 (by rw [e1]; exact hce) hcv hcl T' rfl X'
    exact ⟨t2, st.trans a1, b1⟩
/-- caught by the row x of this method's table; the rows ahead don't take it -/
theorem vx_catch {own name : String} {E : String} {ce : Cell} {q : Addr} (hown : s.vm.findClass own = some m.cls) (pre : List ExceptionTableEntry) (x : ExceptionTableEntry) (suf : List ExceptionTableEntry) (hsplit : c.exceptionTable.toList = pre ++ x :: suf)
    (hpass : ∀ z ∈ pre, covers z pc = false ∨ (z.catchType ≠ 0 ∧ ∃ nm : String, (Cond.classLink own z.catchType nm).before args s = true ∧ va_Nc E nm s)) (hx : covers x pc = true) (h0 : x.catchType ≠ 0)
    (hlink : (Cond.classLink own x.catchType name).before args s = true) (hcast : (Cond.castable E name).before args s = true) (hcell : H[q]? = some ce) (hv : ce.vm = .none) (hcl : s.vm.findClass E = some ce.cls)
    (kk : W p l e R s m args below meth c H locs cells slots Q (F0 m x.handlerPc ls [.ref q])) : vx_W p l e R s m args below meth c H locs cells slots Q (F0 m pc ls rest) q := by
  intro T hT X
  have hpl : e.platform.magicAccessors = ({} : Platform).magicAccessors := by rw [X.admits.platform]
  obtain ⟨c3, c4, hc3, hc4, hasg⟩ := Cond.castable_spec hcast
  cases Option.some.inj (hc3.symm.trans hcl)
  obtain ⟨c5, hc5, hcl5⟩ := Cond.classLink_spec hown hlink e.platform hpl
  cases Option.some.inj (hc4.symm.trans hc5)
  obtain ⟨vm', X', st⟩ := X.thenCaughtThrough q (g := F0 m pc ls rest) rfl (Steps.refl _) (by rw [hT]; exact hcell) (by rw [hv]; rfl) (by obtain ⟨k9, h9, -⟩ := Vm.findClass_spec hcl; exact ⟨k9, h9⟩) pre x suf hsplit
    (fun z hz => by
      rcases hpass z hz with h | ⟨hz0, nm, hl1, hn1⟩
      · exact Or.inl h
      · obtain ⟨c6, hc6, hcl6⟩ := Cond.classLink_spec hown hl1 e.platform hpl
        obtain ⟨a8, b8, h1, h2, h3⟩ := hn1
        cases Option.some.inj (h1.symm.trans hcl)
        cases Option.some.inj (h2.symm.trans hc6)
        exact Or.inr ⟨hz0, _, hcl6, h3⟩) hx (Or.inr ⟨h0, c4, hcl5, hasg⟩)
  obtain ⟨t, a1, b1⟩ := kk (T.setVm vm') hT X'
  exact ⟨t, st.trans a1, b1⟩
end Rows
section Ends
variable {p : Program} {l : Launch} {e : Env} {R : Room} {s : State} {m : MethodId} {args : Array Value} {below : List Frame} {meth : Method} {c : Code} {H : Heap} {locs : List Loc} {cells slots : Nat} {Q : State → Prop}
variable {mc ms : Nat} {free : Addr → Prop} {A0 A1 : Nat → Prop} {H0 : Heap} {a : Array Value} {ls : Array Slot} {st0 rest : List Value}
variable {Qc : Array Value → State → Outcome → State → Prop} {XC : String → State → State → Prop}
/-- what a body that may throw owes at its end -/
def vx_MQ (below : List Frame) (Qc : Array Value → State → Outcome → State → Prop) (XC : String → State → State → Prop) (a : Array Value) (s : State) (mc ms : Nat) (free : Addr → Prop) : State → Prop := fun t =>
  ∃ o, t.status = .running ∧ Ended t below o ∧ vx_Q Qc XC mc ms free a s o t
theorem vx_ret {g : JFrame} {mc ms : Nat} (k : W p l e R s m args below meth c H locs cells slots (MQ below Qc args s mc ms free) g) : W p l e R s m args below meth c H locs cells slots (vx_MQ below Qc XC args s mc ms free) g := by
  intro T hT X
  obtain ⟨t, a1, o, b1, b2, b3, b4⟩ := k T hT X
  exact ⟨t, a1, o, b1, b2, Or.inl ⟨b3, b4⟩⟩
/-- not caught here: it goes on to the caller -/
theorem vx_widen {g : JFrame} {q : Addr} {k n : Nat} (h1 : cells ≤ k) (h2 : slots ≤ n) (kk : vx_W p l e R s m args below meth c H locs k n Q g q) : vx_W p l e R s m args below meth c H locs cells slots Q g q := fun T hT X => kk T hT (stand_widen X h1 h2)
theorem vx_out {pc : Nat} {E : String} {ce : Cell} {q : Addr} {mc ms : Nat} (hout : ∀ x ∈ c.exceptionTable.toList, covers x pc = false) (hlocks : meth.locks = false) (hcell : H[q]? = some ce) (hv : ce.vm = .none) (hcl : s.vm.findClass E = some ce.cls)
    (hx : ∀ t : State, t.heap = H → s.vm.Alike t.vm → XC E s t) (hf : ∀ z ∈ locs, free z.base) (hc : cells ≤ mc) (hs : slots ≤ ms) :
    vx_W p l e R s m args below meth c H locs cells slots (vx_MQ below Qc XC args s mc ms free) (F0 m pc ls rest) q := by
  intro T hT X
  obtain ⟨st1, hrun, hend, hW, hsm⟩ := X.leaveThrown q (g := F0 m pc ls rest) rfl rfl rfl hout hlocks
  have hcell9 : (T.setFrames (.throwing q :: below)).heap[q]? = some ce := by
    show T.heap[q]? = some ce
    rw [hT]; exact hcell
  exact ⟨_, st1, .threw q, hrun, hend, Or.inr ⟨q, rfl, E, ce, locs, hx _ hT hW.alike, hcell9, hv, hcl, hW, hsm.mono hc hs, hf⟩⟩
theorem vx_frame {U : State} {k n : Nat} (h : s.sameButNew ({ U with vm := s.vm } : State) locs k n) : s.heap.size ≤ U.heap.size ∧ ∀ q : Nat, q < s.heap.size → (∀ z ∈ locs, z.base ≠ q) → U.heap[q]? = s.heap[q]? := by
  obtain ⟨-, h2, -, -, -, h6⟩ := h
  refine ⟨h2, fun q hq hz => ?_⟩
  obtain ⟨c9, e1, e2, e3, e4⟩ := h6 q _ (Array.getElem?_eq_getElem hq)
  have hs : c9.slots = (s.heap[q]).slots := Array.ext_getElem? fun i => e4 i fun hm => hz _ hm rfl
  have h9 : c9 = s.heap[q] := by
    rw [hs] at e2
    exact e2
  have e5 : U.heap[q]? = some c9 := e1
  rw [e5, h9, Array.getElem?_eq_getElem hq]
/-- the words of a throw but the four that speak of the heap -/
def vx_no (w : Cond) : Bool := decide (w ≠ .isRef (.static Bundle.tN "UNASSIGNED_STACK" Bundle.steD)) && decide (w ≠ .isRef (.static Bundle.tN "SUPPRESSED_SENTINEL" Bundle.listD)) && decide (w ≠ .laysStatic Bundle.tN "UNASSIGNED_STACK" Bundle.steD) && decide (w ≠ .laysStatic Bundle.tN "SUPPRESSED_SENTINEL" Bundle.listD)
def vx_at0 (own : String) (ic : Nat) (X : String) (names : List String) : List Cond := (Bundle.ownAtoms0 own ic X names).filter vx_no
def vx_atS (own : String) (ic : Nat) (X : String) (names : List String) : List Cond := (Bundle.ownAtoms own ic X names).filter vx_no
/-- a word that the tables alone decide, or a good one -/
def vx_ot (w : Cond) : Bool := w.onTables || goodWord w
theorem vx_ot_at {args a' : Array Value} {s U : State} {w : Cond} (hW : s.WarmedH U.vm) (hvm : s.vm = U.vm) (hg : vx_ot w = true) (h : w.before args s = true) : w.before a' U = true := by
  simp only [vx_ot, Bool.or_eq_true] at hg
  rcases hg with hg | hg
  · exact va_tabs hg hvm h
  · exact word_at hW (good_of_word hg) h
/-- a list's words: the good ones out of the method's own list, the others by premises of their own -/
theorem vx_hat {args : Array Value} {s : State} {L B : List Cond} (h1 : ∀ w ∈ L.filter goodWord, w.before args s = true) (h2 : ∀ w ∈ L.filter (fun w => !goodWord w), w ∈ B) (h3 : ∀ w ∈ B, w.before args s = true) : ∀ w ∈ L, w.before args s = true := by
  intro w hw
  by_cases g : goodWord w = true
  · exact h1 w (List.mem_filter.mpr ⟨hw, g⟩)
  · refine h3 w (h2 w (List.mem_filter.mpr ⟨hw, ?_⟩))
    show (!goodWord w) = true
    cases hgw : goodWord w
    · rfl
    · exact absurd hgw g
theorem vx_c {args : Array Value} {s : State} {w : Cond} {B : List Cond} (h : w.before args s = true) (t : ∀ w ∈ B, w.before args s = true) : ∀ w' ∈ w :: B, w'.before args s = true := fun w' h' => (List.mem_cons.mp h').elim (fun e => by rw [e]; exact h) (t w')
theorem vx_n {args : Array Value} {s : State} : ∀ w ∈ ([] : List Cond), w.before args s = true := fun _ h => nomatch h
theorem vx_own {args : Array Value} {s : State} {L : List Cond} (h1 : ∀ w ∈ L.filter vx_no, w.before args s = true)
    (hU : (Cond.isRef (.static Bundle.tN "UNASSIGNED_STACK" Bundle.steD)).before args s = true) (hN : (Cond.isRef (.static Bundle.tN "SUPPRESSED_SENTINEL" Bundle.listD)).before args s = true)
    (lU : (Cond.laysStatic Bundle.tN "UNASSIGNED_STACK" Bundle.steD).before args s = true) (lN : (Cond.laysStatic Bundle.tN "SUPPRESSED_SENTINEL" Bundle.listD).before args s = true) : ∀ w ∈ L, w.before args s = true := by
  intro w hw
  by_cases e1 : w = .isRef (.static Bundle.tN "UNASSIGNED_STACK" Bundle.steD)
  · rw [e1]; exact hU
  · by_cases e2 : w = .isRef (.static Bundle.tN "SUPPRESSED_SENTINEL" Bundle.listD)
    · rw [e2]; exact hN
    · by_cases e3 : w = .laysStatic Bundle.tN "UNASSIGNED_STACK" Bundle.steD
      · rw [e3]; exact lU
      · by_cases e4 : w = .laysStatic Bundle.tN "SUPPRESSED_SENTINEL" Bundle.listD
        · rw [e4]; exact lN
        · exact h1 w (List.mem_filter.mpr ⟨hw, by unfold vx_no; rw [decide_eq_true e1, decide_eq_true e2, decide_eq_true e3, decide_eq_true e4]; rfl⟩)
/-- where a static field lies, its class's statics cell in H -/
def vx_L (C n d : String) (A : Nat → Prop) (U : State) (H : Heap) : Prop := ∃ (c : ClassId) (k : Class) (i : Nat) (f : Field) (a : Nat) (cell : Cell), U.vm.findClass C = some c ∧ U.fieldFound? C n d = some (c, k, i, f) ∧ f.isStatic = true ∧ k.statics = some a ∧ H[a]? = some cell ∧ cell.vm.isStatics = true ∧ cell.cls = c ∧ f.slot < cell.slots.size ∧ k.staticTypes[f.slot]? = some f.type ∧ ¬ A a
theorem vx_L.moved {C n d : String} {A : Nat → Prop} {u U : State} {H : Heap} (hvm : u.vm.Alike U.vm) (h : vx_L C n d A u H) : vx_L C n d A U H := by
  obtain ⟨c, k, i, f, a, cell, h1, h2, h3, h4, h5, h6, h7, h8, h9, h10⟩ := h
  obtain ⟨k', hi', he⟩ := State.fieldFound?_setVm hvm h2
  exact ⟨c, k', i, f, a, cell, by rw [hvm.findClass]; exact h1, hi', h3, by rw [he]; exact h4, h5, h6, h7, h8, by rw [he]; exact h9, h10⟩
theorem vx_L.kept {C n d : String} {A : Nat → Prop} {U : State} {H H1 : Heap} (h : vx_L C n d A U H) (hq : ∀ a : Nat, a < H.size → ¬ A a → H1[a]? = H[a]?) : vx_L C n d A U H1 := by
  obtain ⟨c, k, i, f, a, cell, h1, h2, h3, h4, h5, h6, h7, h8, h9, h10⟩ := h
  exact ⟨c, k, i, f, a, cell, h1, h2, h3, h4, by rw [hq a (Array.getElem?_eq_some_iff.mp h5).1 h10]; exact h5, h6, h7, h8, h9, h10⟩
theorem vx_L.narrow {C n d : String} {A B : Nat → Prop} {U : State} {H : Heap} (h : vx_L C n d A U H) (hAB : ∀ q, B q → A q) : vx_L C n d B U H := by
  obtain ⟨c, k, i, f, a, cell, h1, h2, h3, h4, h5, h6, h7, h8, h9, h10⟩ := h
  exact ⟨c, k, i, f, a, cell, h1, h2, h3, h4, h5, h6, h7, h8, h9, fun z => h10 (hAB _ z)⟩
theorem vx_L.word {C n d : String} {A : Nat → Prop} {s : State} {args : Array Value} (h : vx_L C n d A s s.heap) : (Cond.laysStatic C n d).before args s = true := by
  obtain ⟨c, k, i, f, a, cell, h1, h2, h3, h4, h5, h6, h7, h8, h9, -⟩ := h
  show (Cond.laysStatic C n d).holds args s none s [] = true
  exact Cond.laysStatic_of h1 h2 h3 h4 h5 h6 h7 h8 h9
/-- .. and what it holds: null or some reference -/
def vx_Zq (C n d : String) (A : Nat → Prop) (U : State) (H : Heap) : Prop := va_Zq C n d A U H ∧ vx_L C n d A U H
theorem vx_Zq.moved {C n d : String} {A : Nat → Prop} {u U : State} {H : Heap} (hvm : u.vm.Alike U.vm) (h : vx_Zq C n d A u H) : vx_Zq C n d A U H := ⟨va_Zq.moved hvm h.1, vx_L.moved hvm h.2⟩
theorem vx_Zq.kept {C n d : String} {A : Nat → Prop} {U : State} {H H1 : Heap} (h : vx_Zq C n d A U H) (hq : ∀ a : Nat, a < H.size → ¬ A a → H1[a]? = H[a]?) : vx_Zq C n d A U H1 := ⟨va_Zq.kept h.1 hq, vx_L.kept h.2 hq⟩
theorem vx_Zq.narrow {C n d : String} {A B : Nat → Prop} {U : State} {H : Heap} (h : vx_Zq C n d A U H) (hAB : ∀ q, B q → A q) : vx_Zq C n d B U H := ⟨va_Zq.narrow h.1 hAB, vx_L.narrow h.2 hAB⟩
theorem vx_Zqof {args : Array Value} {s : State} {C n d : String} {A : Nat → Prop} (hl : (Cond.laysStatic C n d).before args s = true) (hini : (Cond.initialized C).before args s = true) (h : (Cond.isRef (.static C n d)).before args s = true) (hA : ∀ a : Nat, a < s.heap.size → ¬ A a) : vx_Zq C n d A s s.heap := by
  refine ⟨va_Zqof hl hini h hA, ?_⟩
  obtain ⟨c, k, i, f, a, cell, h1, h2, h3, h4, h5, h6, h7, h8, h9⟩ := Cond.laysStatic_spec hl
  exact ⟨c, k, i, f, a, cell, h1, h2, h3, h4, h5, h6, h7, h8, h9, hA a (Array.getElem?_eq_some_iff.mp h5).1⟩
theorem vx_isRef {C n d : String} {v : Value} {A : Nat → Prop} {s : State} {args : Array Value} (h : va_Z C n d v A s s.heap) (hv : v.isRef = true) : (Cond.isRef (.static C n d)).before args s = true := by
  obtain ⟨cf, kf, fi, f, a, cell, h1, h2, h3, h4, h5, h6, h7, -⟩ := h
  have he : (Term.static C n d).eval args s none [] s = some v := by
    simp [Term.eval, State.fieldNamed?, h1, h2, h4, h5, h6, h7]
  simp only [Cond.before, Cond.holds, Cond.value, he]
  cases v <;> simp_all [Value.isRef]
theorem vx_isRefq {C n d : String} {A : Nat → Prop} {s : State} {args : Array Value} (h : va_Zq C n d A s s.heap) : (Cond.isRef (.static C n d)).before args s = true := by
  rcases h with h | ⟨t, h⟩
  · exact vx_isRef h rfl
  · exact vx_isRef h rfl
/-- the same frame, seen from here: as if the method were called anew in this heap -/
theorem vx_rebase {T : State} (X : Stand p l e R s m args below meth c T locs cells slots) {R' : Room} (hf : R'.frames ≤ R.frames) (hl : R'.locals ≤ R.locals) (hc : cells + R'.cells ≤ R.cells) (hs : slots + R'.slots ≤ R.slots) :
    Stand p l e R' ((T.setVm s.vm).setFrames (.invoking m args :: below)) m args below meth c T [] 0 0 := by
  have htop : (T.setVm s.vm).topJava?.isSome := X.here.top
  have hF : ((T.setVm s.vm).setFrames (.invoking m args :: below)).frames = .invoking m args :: below := State.frames_setFrames _ (State.cur_lt_of_top htop)
  obtain ⟨g₀, hg0⟩ := Option.isSome_iff_exists.mp htop
  obtain ⟨r, hr⟩ := State.topJava?_eq_some.mp hg0
  have hl9 : e.platform.stackLimits (T.setVm s.vm).me = e.platform.stackLimits s.me := X.limits
  have hb9 : (T.setVm s.vm).me.stackBytes = s.me.stackBytes := X.bytes
  refine ⟨X.admits, X.cas, X.clock, hF, ?_, X.hears, X.method, X.code, X.here, X.tail, X.warmed, ?_, ?_, ?_⟩
  · have h := X.room
    have hU : ((T.setVm s.vm).setFrames (.invoking m args :: below)).localsInUse = s.localsInUse := by
      rw [State.localsInUse_invoking hF (meth := meth) (c := c) X.method X.code, State.localsInUse_invoking X.frames X.method X.code]
    simp only [State.hasRoom, Bool.and_eq_true, decide_eq_true_eq] at h ⊢
    obtain ⟨⟨⟨⟨h1, h2, h3, h4, h5, h6⟩, h7⟩, h8⟩, h9⟩ := h
    rw [X.frames, List.length_cons] at h2 h3
    have q1 := X.heapSize
    have q2 := X.used
    simp only [hF, hU, List.length_cons, State.stackLimits_setFrames, State.stackBytes_setFrames, hl9, hb9]
    refine ⟨⟨⟨⟨by omega, by omega, by omega, by omega, by omega, h6⟩, ?_⟩, ?_⟩, X.book⟩
    · show T.heap.size + R'.cells ≤ e.platform.maxCells
      omega
    · show T.slotsUsed + R'.slots ≤ e.platform.maxSlots
      omega
  · rw [State.stackLimits_setFrames]; rfl
  · rw [State.stackBytes_setFrames]; rfl
  · refine ⟨?_, Nat.le_refl _, Nat.le_refl _, ?_, ?_, fun a c9 h9 => ⟨c9, h9, rfl, rfl, fun _ _ => rfl⟩⟩
    · obtain ⟨t, ht, -⟩ := State.frames_cons hr
      show T.setVm s.vm = { ((T.setVm s.vm).setFrames (.invoking m args :: below)).setFrames (T.setVm s.vm).frames with heap := T.heap, slotsUsed := T.slotsUsed }
      rw [State.setFrames_setFrames, State.setFrames_self ht]
      rfl
    · show T.slotsUsed = T.slotsUsed + ((T.heap.toList.drop T.heap.size).map (·.slots.size)).sum
      rw [List.drop_eq_nil_of_le (Nat.le_of_eq Array.length_toList)]
      rfl
    · show ((T.heap.toList.drop T.heap.size).map (·.slots.size)).sum ≤ 0
      rw [List.drop_eq_nil_of_le (Nat.le_of_eq Array.length_toList)]
      exact Nat.le_refl _
/-- 'throw new E()': new; dup; invokespecial; athrow -/
theorem vx_throw0 {cc : ByteArray} {pc : Nat} (hexec : p.tables.exec = Jvm.exec) (hb : c.code = cc) (hl : l.stackTraces = false) {own cls : String} {names : List String} {ik ic mc ms : Nat} {A : Nat → Prop}
    (hown : s.vm.findClass own = some m.cls) (hcls : Bundle.fit cls = true) (hnames : ∀ n ∈ names, Bundle.fit n = true)
    (hk : (Cond.classLink own ik cls).before args s = true) (hini : (Cond.initialized cls).before args s = true) (hat : ∀ w ∈ vx_at0 own ic cls names, w.before args s = true)
    (hgood : ∀ w ∈ Cond.classLink own ik cls :: Cond.initialized cls :: vx_at0 own ic cls names, vx_ot w = true)
    (hU : vx_Zq Bundle.tN "UNASSIGNED_STACK" Bundle.steD A s s.heap) (hN : vx_Zq Bundle.tN "SUPPRESSED_SENTINEL" Bundle.listD A s s.heap) (hS : va_S A s.heap H locs) (hsize : ls.size = c.maxLocals)
    (d0 : decode cc pc = .ok (.new ik, 3)) (d3 : decode cc (pc + 3) = .ok (.dup, 1)) (d4 : decode cc (pc + 4) = .ok (.invokespecial ic, 3)) (d7 : decode cc (pc + 7) = .ok (.athrow, 1))
    (hout : ∀ x ∈ c.exceptionTable.toList, covers x (pc + 7) = false)
    (hRframes : names.length + 3 < R.frames) (hRlocals : (rest.map fun v => v.category).sum + (13 * (names.length + 1) + 42) ≤ R.locals) (hRcells : cells + 1 ≤ R.cells) (hRslots : slots + 6 ≤ R.slots) (hlocks : meth.locks = false)
    (hx : ∀ t : State, s.vm.Alike t.vm → H.size ≤ t.heap.size → (∀ q : Nat, q < H.size → t.heap[q]? = H[q]?) → XC cls s t)
    (hf : ∀ z ∈ locs, free z.base) (hc : cells + 1 ≤ mc) (hs : slots + 6 ≤ ms) :
    W p l e R s m args below meth c H locs cells slots (vx_MQ below Qc XC args s mc ms free) (F0 m pc ls rest) := by
  intro T hT X
  have htr : e.platform.stackTraces = false := (show e.platform.stackTraces = l.stackTraces by rw [X.admits.platform]).trans hl
  have Y := vx_rebase X (R' := { frames := R.frames, locals := R.locals, cells := 1, slots := 6 }) (Nat.le_refl _) (Nat.le_refl _) hRcells hRslots
  obtain ⟨s', hA⟩ : ∃ z, z = (T.setVm s.vm).setFrames (.invoking m args :: below) := ⟨_, rfl⟩
  rw [← hA] at Y
  have hvm : s'.vm = s.vm := by rw [hA]; rfl
  have hhp : s'.heap = H := by rw [hA]; exact hT
  have hW0 : s.WarmedH s'.vm := by rw [hvm]; exact State.WarmedH.refl s
  have hat' : ∀ w ∈ vx_at0 own ic cls names, w.before args s' = true := fun w hw => vx_ot_at hW0 hvm.symm (hgood w (List.mem_cons_of_mem _ (List.mem_cons_of_mem _ hw))) (hat w hw)
  have hk' : (Cond.classLink own ik cls).before args s' = true := vx_ot_at hW0 hvm.symm (hgood _ List.mem_cons_self) hk
  have hini' : (Cond.initialized cls).before args s' = true := vx_ot_at hW0 hvm.symm (hgood _ (List.mem_cons_of_mem _ List.mem_cons_self)) hini
  have hU' : vx_Zq Bundle.tN "UNASSIGNED_STACK" Bundle.steD A s' s'.heap := by rw [hhp]; exact vx_Zq.moved hW0.alike (hU.kept hS.2.1)
  have hN' : vx_Zq Bundle.tN "SUPPRESSED_SENTINEL" Bundle.listD A s' s'.heap := by rw [hhp]; exact vx_Zq.moved hW0.alike (hN.kept hS.2.1)
  have h : ∀ w ∈ Bundle.ownAtoms0 own ic cls names, w.before args s' = true := vx_own hat' (vx_isRefq hU'.1) (vx_isRefq hN'.1) hU'.2.word hN'.2.word
  have hown' : s'.vm.findClass own = some m.cls := by rw [hvm]; exact hown
  have hins : (Cond.instantiable cls 6).before args s' = true := h _ (by simp [Bundle.ownAtoms0])
  obtain ⟨vm₁, cX, kX, hfX, hkX, -, -, X₁, st1⟩ := Y.newCold hexec (own := own) (C := cls) (index := ik) (n := 6) hown' hk' hins hini'
    (g := F0 m pc ls rest) rfl (by rw [hb]; exact d0) (Nat.le_refl _) (Nat.le_refl _)
  generalize hT1 : (T.setVm vm₁).pushCell { cls := cX, slots := kX.instanceTypes.map defaultValue, vm := .none } = T1 at X₁ st1
  have hcat : (Value.ref T.heap.size).category = 1 := rfl
  have hcellA : T1.heap[T.heap.size]? = some (freshCell cX kX) := by rw [← hT1]; exact State.heap_pushCell_size _ _
  have d3' : decode c.code (pc + 3) = .ok (.dup, 1) := by rw [hb]; exact d3
  obtain ⟨U, hsteps, hrun, hend, hW, hsame, ce, hce, hO⟩ := X₁.ctorThrow0 hexec htr (own := own) (cls := cls) (names := names) (ic := ic) hown' hcls hnames h (fun x hx => nomatch hx) hfX hkX hcellA (by rw [hhp, hT]; exact Nat.le_refl _)
    (g := { method := m, pc := pc + 4, locals := ls, stack := .ref T.heap.size :: .ref T.heap.size :: rest, locked := none }) rfl hsize rfl rfl (rest := rest) rfl
    (by rw [hb]; exact d4) (by rw [hb]; exact d7) hout hRframes (by simp only [List.map_cons, List.sum_cons, hcat]; omega) hlocks
  obtain ⟨f1, f2⟩ := vx_frame hsame
  rw [hhp] at f1 f2
  have hWs : s.WarmedH U.vm := State.WarmedH.trans hW0 hW
  have hcl : s.vm.findClass cls = some ce.cls := by
    have h9 := hO.cls
    rw [hvm] at h9
    exact h9
  have hall : s.sameButNew ({ U with vm := s.vm } : State) locs mc ms := by
    subst hA
    obtain ⟨e1, e2⟩ := hsame
    rw [State.setFrames_setFrames] at e1
    have h2 : (T.setVm s.vm).sameButNew ({ U with vm := s.vm } : State) [] (0 + 1) (0 + 6) := ⟨e1, e2⟩
    have h3 := X.same.trans h2
    rw [List.append_nil] at h3
    exact h3.mono hc hs
  refine ⟨U, ?_, .threw T.heap.size, hrun, hend, Or.inr ⟨T.heap.size, rfl, cls, ce, locs, hx U hWs.alike f1 (fun q hq => f2 q hq (fun z hz => nomatch hz)), hce, hO.vm, hcl, hWs, hall, hf⟩⟩
  refine st1 _ ?_
  show Steps p.tables e below (T1.setTop { method := m, pc := pc + 3, locals := ls, stack := .ref T.heap.size :: rest, locked := none }) _
  jvm_step X₁.here [X₁.here.top, hexec, d3', Value.category]
  exact hsteps
/-- 'throw new E("text")': new; dup; ldc; invokespecial; athrow -/
theorem vx_throwS {cc : ByteArray} {pc : Nat} (hexec : p.tables.exec = Jvm.exec) (hb : c.code = cc) (hl : l.stackTraces = false) {own cls text : String} {names : List String} {ik is ic mc ms sa : Nat} {A : Nat → Prop}
    (hown : s.vm.findClass own = some m.cls) (hcls : Bundle.fit cls = true) (hnames : ∀ n ∈ names, Bundle.fit n = true)
    (hk : (Cond.classLink own ik cls).before args s = true) (hini : (Cond.initialized cls).before args s = true) (hstr : vk_R own is text sa s) (hat : ∀ w ∈ vx_atS own ic cls names, w.before args s = true)
    (hgood : ∀ w ∈ Cond.classLink own ik cls :: Cond.initialized cls :: vx_atS own ic cls names, vx_ot w = true)
    (hU : vx_Zq Bundle.tN "UNASSIGNED_STACK" Bundle.steD A s s.heap) (hN : vx_Zq Bundle.tN "SUPPRESSED_SENTINEL" Bundle.listD A s s.heap) (hS : va_S A s.heap H locs) (hsize : ls.size = c.maxLocals)
    (d0 : decode cc pc = .ok (.new ik, 3)) (d3 : decode cc (pc + 3) = .ok (.dup, 1)) (d4 : decode cc (pc + 4) = .ok (.ldc is, 2)) (d6 : decode cc (pc + 6) = .ok (.invokespecial ic, 3)) (d9 : decode cc (pc + 9) = .ok (.athrow, 1))
    (hout : ∀ x ∈ c.exceptionTable.toList, covers x (pc + 9) = false)
    (hRframes : names.length + 3 < R.frames) (hRlocals : (rest.map fun v => v.category).sum + (13 * (names.length + 1) + 43) ≤ R.locals) (hRcells : cells + 1 ≤ R.cells) (hRslots : slots + 6 ≤ R.slots) (hlocks : meth.locks = false)
    (hx : ∀ t : State, s.vm.Alike t.vm → H.size ≤ t.heap.size → (∀ q : Nat, q < H.size → t.heap[q]? = H[q]?) → XC cls s t)
    (hf : ∀ z ∈ locs, free z.base) (hc : cells + 1 ≤ mc) (hs : slots + 6 ≤ ms) :
    W p l e R s m args below meth c H locs cells slots (vx_MQ below Qc XC args s mc ms free) (F0 m pc ls rest) := by
  intro T hT X
  have htr : e.platform.stackTraces = false := (show e.platform.stackTraces = l.stackTraces by rw [X.admits.platform]).trans hl
  have Y := vx_rebase X (R' := { frames := R.frames, locals := R.locals, cells := 1, slots := 6 }) (Nat.le_refl _) (Nat.le_refl _) hRcells hRslots
  obtain ⟨s', hA⟩ : ∃ z, z = (T.setVm s.vm).setFrames (.invoking m args :: below) := ⟨_, rfl⟩
  rw [← hA] at Y
  have hvm : s'.vm = s.vm := by rw [hA]; rfl
  have hhp : s'.heap = H := by rw [hA]; exact hT
  have hW0 : s.WarmedH s'.vm := by rw [hvm]; exact State.WarmedH.refl s
  have hat' : ∀ w ∈ vx_atS own ic cls names, w.before args s' = true := fun w hw => vx_ot_at hW0 hvm.symm (hgood w (List.mem_cons_of_mem _ (List.mem_cons_of_mem _ hw))) (hat w hw)
  have hk' : (Cond.classLink own ik cls).before args s' = true := vx_ot_at hW0 hvm.symm (hgood _ List.mem_cons_self) hk
  have hini' : (Cond.initialized cls).before args s' = true := vx_ot_at hW0 hvm.symm (hgood _ (List.mem_cons_of_mem _ List.mem_cons_self)) hini
  have hU' : vx_Zq Bundle.tN "UNASSIGNED_STACK" Bundle.steD A s' s'.heap := by rw [hhp]; exact vx_Zq.moved hW0.alike (hU.kept hS.2.1)
  have hN' : vx_Zq Bundle.tN "SUPPRESSED_SENTINEL" Bundle.listD A s' s'.heap := by rw [hhp]; exact vx_Zq.moved hW0.alike (hN.kept hS.2.1)
  have h : ∀ w ∈ Bundle.ownAtoms own ic cls names, w.before args s' = true := vx_own hat' (vx_isRefq hU'.1) (vx_isRefq hN'.1) hU'.2.word hN'.2.word
  have hown' : s'.vm.findClass own = some m.cls := by rw [hvm]; exact hown
  have hins : (Cond.instantiable cls 6).before args s' = true := h _ (by simp [Bundle.ownAtoms])
  obtain ⟨vm₁, cX, kX, hfX, hkX, -, -, X₁, st1⟩ := Y.newCold hexec (own := own) (C := cls) (index := ik) (n := 6) hown' hk' hins hini'
    (g := F0 m pc ls rest) rfl (by rw [hb]; exact d0) (Nat.le_refl _) (Nat.le_refl _)
  generalize hT1 : (T.setVm vm₁).pushCell { cls := cX, slots := kX.instanceTypes.map defaultValue, vm := .none } = T1 at X₁ st1
  have hcat : (Value.ref T.heap.size).category = 1 := rfl
  have hcellA : T1.heap[T.heap.size]? = some (freshCell cX kX) := by rw [← hT1]; exact State.heap_pushCell_size _ _
  have d3' : decode c.code (pc + 3) = .ok (.dup, 1) := by rw [hb]; exact d3
  have d4' : decode c.code (pc + 4) = .ok (.ldc is, 2) := by rw [hb]; exact d4
  have hstr' : vk_R own is text sa s' := vk_R.warm hW0 hstr
  obtain ⟨U, hsteps, hrun, hend, hW, hsame, ce, hce, hO⟩ := X₁.ctorThrowS hexec htr (own := own) (cls := cls) (names := names) (ic := ic) hown' hcls hnames h (fun x hx => nomatch hx) hfX hkX hcellA (by rw [hhp, hT]; exact Nat.le_refl _) (msg := .ref sa) rfl
    (g := { method := m, pc := pc + 6, locals := ls, stack := .ref sa :: .ref T.heap.size :: .ref T.heap.size :: rest, locked := none }) rfl hsize rfl rfl (rest := rest) rfl
    (by rw [hb]; exact d6) (by rw [hb]; exact d9) hout hRframes (by simp only [List.map_cons, List.sum_cons, hcat]; omega) hlocks
  obtain ⟨f1, f2⟩ := vx_frame hsame
  rw [hhp] at f1 f2
  have hWs : s.WarmedH U.vm := State.WarmedH.trans hW0 hW
  have hcl : s.vm.findClass cls = some ce.cls := by
    have h9 := hO.cls
    rw [hvm] at h9
    exact h9
  have hall : s.sameButNew ({ U with vm := s.vm } : State) locs mc ms := by
    subst hA
    obtain ⟨e1, e2⟩ := hsame
    rw [State.setFrames_setFrames] at e1
    have h2 : (T.setVm s.vm).sameButNew ({ U with vm := s.vm } : State) [] (0 + 1) (0 + 6) := ⟨e1, e2⟩
    have h3 := X.same.trans h2
    rw [List.append_nil] at h3
    exact h3.mono hc hs
  refine ⟨U, ?_, .threw T.heap.size, hrun, hend, Or.inr ⟨T.heap.size, rfl, cls, ce, locs, hx U hWs.alike f1 (fun q hq => f2 q hq (fun z hz => nomatch hz)), hce, hO.vm, hcl, hWs, hall, hf⟩⟩
  refine st1 _ ?_
  show Steps p.tables e below (T1.setTop { method := m, pc := pc + 3, locals := ls, stack := .ref T.heap.size :: rest, locked := none }) _
  jvm_step X₁.here [X₁.here.top, hexec, d3', Value.category]
  exact X₁.ldcString hexec (own := own) (text := text) (index := is) (a := sa) hown' hstr'.1 hstr'.2
    (g := { method := m, pc := pc + 4, locals := ls, stack := .ref T.heap.size :: .ref T.heap.size :: rest, locked := none }) rfl d4' _ hsteps
/-- 'throw new E("text")', the text by a wide index -/
theorem vx_throwSW {cc : ByteArray} {pc : Nat} (hexec : p.tables.exec = Jvm.exec) (hb : c.code = cc) (hl : l.stackTraces = false) {own cls text : String} {names : List String} {ik is ic mc ms sa : Nat} {A : Nat → Prop}
    (hown : s.vm.findClass own = some m.cls) (hcls : Bundle.fit cls = true) (hnames : ∀ n ∈ names, Bundle.fit n = true)
    (hk : (Cond.classLink own ik cls).before args s = true) (hini : (Cond.initialized cls).before args s = true) (hstr : vk_R own is text sa s) (hat : ∀ w ∈ vx_atS own ic cls names, w.before args s = true)
    (hgood : ∀ w ∈ Cond.classLink own ik cls :: Cond.initialized cls :: vx_atS own ic cls names, vx_ot w = true)
    (hU : vx_Zq Bundle.tN "UNASSIGNED_STACK" Bundle.steD A s s.heap) (hN : vx_Zq Bundle.tN "SUPPRESSED_SENTINEL" Bundle.listD A s s.heap) (hS : va_S A s.heap H locs) (hsize : ls.size = c.maxLocals)
    (d0 : decode cc pc = .ok (.new ik, 3)) (d3 : decode cc (pc + 3) = .ok (.dup, 1)) (d4 : decode cc (pc + 4) = .ok (.ldc_w is, 3)) (d7 : decode cc (pc + 7) = .ok (.invokespecial ic, 3)) (d10 : decode cc (pc + 10) = .ok (.athrow, 1))
    (hout : ∀ x ∈ c.exceptionTable.toList, covers x (pc + 10) = false)
    (hRframes : names.length + 3 < R.frames) (hRlocals : (rest.map fun v => v.category).sum + (13 * (names.length + 1) + 43) ≤ R.locals) (hRcells : cells + 1 ≤ R.cells) (hRslots : slots + 6 ≤ R.slots) (hlocks : meth.locks = false)
    (hx : ∀ t : State, s.vm.Alike t.vm → H.size ≤ t.heap.size → (∀ q : Nat, q < H.size → t.heap[q]? = H[q]?) → XC cls s t)
    (hf : ∀ z ∈ locs, free z.base) (hc : cells + 1 ≤ mc) (hs : slots + 6 ≤ ms) :
    W p l e R s m args below meth c H locs cells slots (vx_MQ below Qc XC args s mc ms free) (F0 m pc ls rest) := by
  intro T hT X
  have htr : e.platform.stackTraces = false := (show e.platform.stackTraces = l.stackTraces by rw [X.admits.platform]).trans hl
  have Y := vx_rebase X (R' := { frames := R.frames, locals := R.locals, cells := 1, slots := 6 }) (Nat.le_refl _) (Nat.le_refl _) hRcells hRslots
  obtain ⟨s', hA⟩ : ∃ z, z = (T.setVm s.vm).setFrames (.invoking m args :: below) := ⟨_, rfl⟩
  rw [← hA] at Y
  have hvm : s'.vm = s.vm := by rw [hA]; rfl
  have hhp : s'.heap = H := by rw [hA]; exact hT
  have hW0 : s.WarmedH s'.vm := by rw [hvm]; exact State.WarmedH.refl s
  have hat' : ∀ w ∈ vx_atS own ic cls names, w.before args s' = true := fun w hw => vx_ot_at hW0 hvm.symm (hgood w (List.mem_cons_of_mem _ (List.mem_cons_of_mem _ hw))) (hat w hw)
  have hk' : (Cond.classLink own ik cls).before args s' = true := vx_ot_at hW0 hvm.symm (hgood _ List.mem_cons_self) hk
  have hini' : (Cond.initialized cls).before args s' = true := vx_ot_at hW0 hvm.symm (hgood _ (List.mem_cons_of_mem _ List.mem_cons_self)) hini
  have hU' : vx_Zq Bundle.tN "UNASSIGNED_STACK" Bundle.steD A s' s'.heap := by rw [hhp]; exact vx_Zq.moved hW0.alike (hU.kept hS.2.1)
  have hN' : vx_Zq Bundle.tN "SUPPRESSED_SENTINEL" Bundle.listD A s' s'.heap := by rw [hhp]; exact vx_Zq.moved hW0.alike (hN.kept hS.2.1)
  have h : ∀ w ∈ Bundle.ownAtoms own ic cls names, w.before args s' = true := vx_own hat' (vx_isRefq hU'.1) (vx_isRefq hN'.1) hU'.2.word hN'.2.word
  have hown' : s'.vm.findClass own = some m.cls := by rw [hvm]; exact hown
  have hins : (Cond.instantiable cls 6).before args s' = true := h _ (by simp [Bundle.ownAtoms])
  obtain ⟨vm₁, cX, kX, hfX, hkX, -, -, X₁, st1⟩ := Y.newCold hexec (own := own) (C := cls) (index := ik) (n := 6) hown' hk' hins hini'
    (g := F0 m pc ls rest) rfl (by rw [hb]; exact d0) (Nat.le_refl _) (Nat.le_refl _)
  generalize hT1 : (T.setVm vm₁).pushCell { cls := cX, slots := kX.instanceTypes.map defaultValue, vm := .none } = T1 at X₁ st1
  have hcat : (Value.ref T.heap.size).category = 1 := rfl
  have hcellA : T1.heap[T.heap.size]? = some (freshCell cX kX) := by rw [← hT1]; exact State.heap_pushCell_size _ _
  have d3' : decode c.code (pc + 3) = .ok (.dup, 1) := by rw [hb]; exact d3
  have d4' : decode c.code (pc + 4) = .ok (.ldc_w is, 3) := by rw [hb]; exact d4
  have hstr' : vk_R own is text sa s' := vk_R.warm hW0 hstr
  obtain ⟨U, hsteps, hrun, hend, hW, hsame, ce, hce, hO⟩ := X₁.ctorThrowS hexec htr (own := own) (cls := cls) (names := names) (ic := ic) hown' hcls hnames h (fun x hx => nomatch hx) hfX hkX hcellA (by rw [hhp, hT]; exact Nat.le_refl _) (msg := .ref sa) rfl
    (g := { method := m, pc := pc + 7, locals := ls, stack := .ref sa :: .ref T.heap.size :: .ref T.heap.size :: rest, locked := none }) rfl hsize rfl rfl (rest := rest) rfl
    (by rw [hb]; exact d7) (by rw [hb]; exact d10) hout hRframes (by simp only [List.map_cons, List.sum_cons, hcat]; omega) hlocks
  obtain ⟨f1, f2⟩ := vx_frame hsame
  rw [hhp] at f1 f2
  have hWs : s.WarmedH U.vm := State.WarmedH.trans hW0 hW
  have hcl : s.vm.findClass cls = some ce.cls := by
    have h9 := hO.cls
    rw [hvm] at h9
    exact h9
  have hall : s.sameButNew ({ U with vm := s.vm } : State) locs mc ms := by
    subst hA
    obtain ⟨e1, e2⟩ := hsame
    rw [State.setFrames_setFrames] at e1
    have h2 : (T.setVm s.vm).sameButNew ({ U with vm := s.vm } : State) [] (0 + 1) (0 + 6) := ⟨e1, e2⟩
    have h3 := X.same.trans h2
    rw [List.append_nil] at h3
    exact h3.mono hc hs
  refine ⟨U, ?_, .threw T.heap.size, hrun, hend, Or.inr ⟨T.heap.size, rfl, cls, ce, locs, hx U hWs.alike f1 (fun q hq => f2 q hq (fun z hz => nomatch hz)), hce, hO.vm, hcl, hWs, hall, hf⟩⟩
  refine st1 _ ?_
  show Steps p.tables e below (T1.setTop { method := m, pc := pc + 3, locals := ls, stack := .ref T.heap.size :: rest, locked := none }) _
  jvm_step X₁.here [X₁.here.top, hexec, d3', Value.category]
  exact X₁.ldcStringW hexec (own := own) (text := text) (index := is) (a := sa) hown' hstr'.1 hstr'.2
    (g := { method := m, pc := pc + 4, locals := ls, stack := .ref T.heap.size :: .ref T.heap.size :: rest, locked := none }) rfl d4' _ hsteps
end Ends
section Bodies
variable {l : Launch}
theorem vx_ofW {y : MethodName} {ws ws' : List Cond} {rm : Room} {Pc : Array Value → State → Prop} {Qc : Array Value → State → Outcome → State → Prop} {XC : String → State → State → Prop} {mc ms : Nat} {free : Addr → Prop} {cc : ByteArray} {maxL : Nat} {ret : Option FieldType}
    (hy : plainName y.cls = true) (hw : ws = Cond.code y cc maxL ret :: ws')
    (body : ∀ p e s m args below meth c s₁, BodyLoose p l y (headSpec ws rm) cc maxL ret e s m args below meth c s₁ → c.maxLocals = maxL → (∀ x ∈ c.exceptionTable.toList, False) → Pc args s →
      W p l e (headSpec ws rm).room s m args below meth c s.heap [] 0 0 (vx_MQ below Qc XC args s mc ms free) (entryFrame m args maxL)) : vx_Met l y ws rm Pc Qc XC mc ms free := by
  refine MetFree.of_bodyS (code := cc) (maxLocals := maxL) (ret := ret) hy ?_ ?_
  · intro args s m h hn
    obtain ⟨meth, c, h1, h2, h3, h4, h5, h6, -, -⟩ := Cond.code_spec hn (atoms_spec (ws := ws) h _ (by rw [hw]; exact List.mem_cons_self))
    exact ⟨meth, c, h1, h2, h3, h4, h5, h6⟩
  · intro p e s m args below meth c s₁ B hml hP _
    have hh0 : s₁.heap = s.heap := by rw [B.state]; rfl
    have ht : ∀ x ∈ c.exceptionTable.toList, False := by
      obtain ⟨meth9, c9, h1, h2, -, -, -, -, h7, -⟩ := Cond.code_spec B.named (atoms_spec (ws := ws) B.pre _ (by rw [hw]; exact List.mem_cons_self))
      cases Option.some.inj (h1.symm.trans B.method)
      cases Option.some.inj (h2.symm.trans (Stand.of_body B).code)
      intro x hx
      rw [Array.isEmpty_iff.mp h7] at hx
      cases hx
    obtain ⟨t, a1, o, b1, b2, b3⟩ := body p e s m args below meth c s₁ B hml ht hP s₁ hh0 (Stand.of_body B)
    exact ⟨t, o, a1, b1, b2, b3⟩
/-- the table of a body with handlers -/
theorem vx_table {p : Program} {x y : MethodName} {S : Spec} {cc bytes : ByteArray} {maxL maxL' : Nat} {ret ret' : Option FieldType} {e : Env} {s s₁ : State} {m : MethodId} {args : Array Value} {below : List Frame} {meth : Method} {c : Code} {hh : List (Nat × Nat × Nat × Nat)}
    (B : BodyLoose p l y S cc maxL ret e s m args below meth c s₁) (h : (Cond.codeWith y bytes maxL' ret' hh).before args s = true) : c.exceptionTable.toList = tableOf hh := by
  obtain ⟨m9, meth9, c9, hn9, h1, h2, -, -, h6, -⟩ := Cond.codeWith_spec h
  cases Option.some.inj (hn9.symm.trans B.named)
  cases Option.some.inj (h1.symm.trans B.method)
  cases Option.some.inj (h2.symm.trans (Stand.of_body B).code)
  rw [← h6, table_eq]
end Bodies
end VXA
/-! ===== END ===== -/
/-! ===== BEGIN a static call of a method with an exception table ===== -/
section VXS
variable {p : Program} {l : Launch} {e : Env} {R : Room} {s : State} {m : MethodId} {args : Array Value} {below : List Frame} {meth : Method} {c : Code} {T : State} {H : Heap} {locs : List Loc} {cells slots : Nat}
abbrev vx_CSW (R : Room) (s : State) (args : Array Value) (own : String) (index : Nat) (y : MethodName) (bytes : ByteArray) (maxL : Nat) (ret : Option FieldType) (hh : List (Nat × Nat × Nat × Nat)) (ws : List Cond) (rm : Room) (mc ms n : Nat) : Prop :=
  (rm.cells = mc ∧ rm.slots = ms ∧ rm.frames + 1 ≤ R.frames ∧ 8 + (maxL + 11) + rm.locals ≤ R.locals ∧ (∀ w ∈ ws, ∀ (a' : Array Value) (U : State), s.WarmedH U.vm → w.before a' U = true) ∧ Cond.codeWith y bytes maxL ret hh ∈ ws) ∧
  (Cond.codeWith y bytes maxL ret hh).before args s = true ∧ (Cond.initialized y.cls).before args s = true ∧ (y.cls ≠ "java/lang/invoke/MethodHandle" ∧ y.cls ≠ "java/lang/invoke/VarHandle") ∧
  (∀ sig, parseMethodDescriptor y.desc = some sig → n = sig.parameters.length) ∧ (Cond.methodLink own index y).before args s = true ∧ (Cond.static y).before args s = true
theorem vx_cwSW {own : String} {index maxL mc ms : Nat} {y : MethodName} {bytes : ByteArray} {ret : Option FieldType} {hh : List (Nat × Nat × Nat × Nat)} {Ts ws ws' : List Cond} {rm : Room} (n : Nat) (ht : ∀ w ∈ Ts, w.before args s = true) (hT : GoodIn Ts (va_wsS own index y ws)) (hw : ws = Cond.codeWith y bytes maxL ret hh :: ws') (hrc : rm.cells = mc) (hrs : rm.slots = ms)
    (hd : y.cls ≠ "java/lang/invoke/MethodHandle" ∧ y.cls ≠ "java/lang/invoke/VarHandle" ∧ (parseMethodDescriptor y.desc).map (fun d => d.parameters.length) = some n) (hR : rm.frames + 1 ≤ R.frames ∧ 8 + (maxL + 11) + rm.locals ≤ R.locals) :
    vx_CSW R s args own index y bytes maxL ret hh ws rm mc ms n := by
  have ok : ∀ w ∈ va_wsS own index y ws, w.before args s = true := fun w h => ht w (hT w h).1
  have hG : GoodIn Ts ws := fun w h => hT w (by unfold va_wsS; exact List.mem_append_right _ h)
  have hc : Cond.codeWith y bytes maxL ret hh ∈ ws := by rw [hw]; exact List.mem_cons_self
  refine ⟨⟨hrc, hrs, hR.1, hR.2, pay_in ht hG, hc⟩, ht _ (hG _ hc).1, ok _ (by simp [va_wsS]), ⟨hd.1, hd.2.1⟩, fun sig h => ?_, ok _ (by simp [va_wsS]), ok _ (by simp [va_wsS])⟩
  have h2 := hd.2.2
  rw [h] at h2
  exact (Option.some.inj h2).symm
theorem vx_callSW (X : Stand p l e R s m args below meth c T locs cells slots) (hexec : p.tables.exec = Jvm.exec) {own : String} {index : Nat} {y : MethodName} {bytes : ByteArray} {maxL : Nat} {ret : Option FieldType} {hh : List (Nat × Nat × Nat × Nat)}
    (hown : s.vm.findClass own = some m.cls) (hlink : (Cond.methodLink own index y).before args s = true) (hstat : (Cond.static y).before args s = true) (hinit : (Cond.initialized y.cls).before args s = true)
    (hcode : (Cond.codeWith y bytes maxL ret hh).before args s = true) (hy : y.cls ≠ "java/lang/invoke/MethodHandle" ∧ y.cls ≠ "java/lang/invoke/VarHandle")
    {W9 : Nat} {Pre : Pt → Array Value → Prop} {Post : Pt → Array Value → Option Value → Pt → Prop} (hK : Back l R p e below s args y 3 W9 Pre Post)
    {g : JFrame} (hg : g.method = m) (hsize : g.locals.size = c.maxLocals) {argsL rest : List Value} (hlen : ∀ sig, parseMethodDescriptor y.desc = some sig → argsL.length = sig.parameters.length)
    (hstack : g.stack = argsL.reverse ++ rest) (hW : 2 * g.monitorRoom + (rest.map fun v => v.category).sum ≤ W9) (hdg : decode c.code g.pc = .ok (.invokestatic index, 3))
    (hpre : ∀ vm₁, s.WarmedH vm₁ → Pre ⟨T.setVm vm₁, locs, cells, slots⟩ argsL.toArray) :
    ∃ (v : Option Value) (vm₁ : Vm) (B : Pt), s.WarmedH vm₁ ∧ Stand p l e R s m args below meth c B.U B.locs B.cells B.slots ∧ Post ⟨T.setVm vm₁, locs, cells, slots⟩ argsL.toArray v B ∧
      ∀ target, Steps p.tables e below (B.U.setTop { g with pc := g.pc + 3, stack := v.toList ++ rest }) target → Steps p.tables e below (T.setTop g) target := by
  obtain ⟨mk, methM, cM, hnamed, hmethM, -, -, -, -, -, -, hsigM⟩ := Cond.codeWith_spec hcode
  have hstatic : methM.isStatic = true := Cond.static_spec hnamed hmethM hstat
  obtain ⟨kP, hkP, -⟩ := className_of_methodNamed hnamed
  have hinitP : kP.init = .initialized := Cond.initialized_spec (findClass_of_methodNamed hnamed) hkP hinit
  obtain ⟨vm₁, X₁, hstep₁⟩ := X.invokestatic hexec hown hlink hnamed hmethM hstatic hkP hinitP hy (g := g) hg (argsL := argsL) (rest := rest) (hlen _ hsigM) hstack hdg
  obtain ⟨v, B, X', hpost, hsteps⟩ := hK m meth c ⟨T.setVm vm₁, locs, cells, slots⟩ { g with stack := rest } (.invokestatic index) mk argsL.toArray X₁ hg hsize hdg hW (X₁.named hnamed) (hpre vm₁ X₁.warmed)
  exact ⟨v, vm₁, B, X₁.warmed, X', hpost, fun target h => hstep₁ _ fun acts => by rw [doInvoke_state]; exact hsteps.trans h⟩
theorem vx_runSW {y : MethodName} {bytes cc : ByteArray} {maxL nL mc ms n index : Nat} {ret : Option FieldType} {hh : List (Nat × Nat × Nat × Nat)} {ws : List Cond} {rm : Room} {Pc : Array Value → State → Prop} {Qc : Array Value → State → Outcome → State → Prop} {free : Addr → Prop} {Ts : List Cond} {own : String} {As rest : List Value} {g : JFrame}
    (S : CallFix p m c cc nL s args Ts own) (hM : Met l y ws rm Pc Qc mc ms free) (cw : vx_CSW R s args own index y bytes maxL ret hh ws rm mc ms n) (hp : PreS s H Pc As)
    (hg : g.method = m) (hn : As.length = n) (hsize : g.locals.size = nL) (hstack : g.stack = As.reverse ++ rest) (hW : 2 * g.monitorRoom + (rest.map fun v => v.category).sum ≤ 8) (hdg : decode cc g.pc = .ok (.invokestatic index, 3)) (hf : cells + mc ≤ R.cells ∧ slots + ms ≤ R.slots) :
    va_Run p l e R s m args below meth c H locs cells slots mc ms g rest (Qc As.toArray) (free) := by
  obtain ⟨⟨hrc, hrs, hfr, hlo, hws, hcw⟩, hcode, hini, hy, hlen, hl, hstt⟩ := cw
  have hK : Back l R p e below s args y 3 8 (PreOf R mc ms Pc) (PostOf Qc mc ms free) := va_backW (hh := hh) (bytes := bytes) (maxL := maxL) (ret := ret) hM hp.1 hrc hrs hfr hlo hws hcw (fun a' U hW => word_at hW (Or.inl (by first | rfl | simp [Cond.onTables, Cond.keeps, Cond.steady])) hini)
  obtain ⟨hx, hb, hml, ho, -⟩ := S
  intro T hT X
  obtain ⟨v, vm₁, ⟨U', l2, c2, s2⟩, hW₁, X', ⟨g', mk, t, L, e1, e2, hq, h1, hL, h2, h3⟩, st⟩ := vx_callSW X hx (hh := hh) (bytes := bytes) (maxL := maxL) (ret := ret) ho hl hstt hini hcode hy hK hg (hsize.trans hml.symm) (argsL := As) (rest := rest) (fun sig h => hn.trans (hlen sig h)) hstack hW (by rw [hb]; exact hdg)
    (fun vm₁ hW₁ => ⟨hf.1, hf.2, hp.2 (T.setVm vm₁) hT hW₁⟩)
  dsimp only [Pt.U, Pt.locs, Pt.cells, Pt.slots] at X' e1 e2 h1 h2 h3 st
  subst h1; subst h2; subst h3
  exact ⟨v, (T.setVm vm₁).calling g' mk As.toArray, t, U', L, hT, X', hL, e1, e2, hq, st⟩
/-- not caught here, past rows that name other classes: it goes on to the caller -/
theorem vx_outP {p : Program} {l : Launch} {e : Env} {R : Room} {s : State} {m : MethodId} {args : Array Value} {below : List Frame} {meth : Method} {c : Code} {H : Heap} {locs : List Loc} {cells slots : Nat} {free : Addr → Prop} {ls : Array Slot} {rest : List Value} {Qc : Array Value → State → Outcome → State → Prop} {XC : String → State → State → Prop}
    {pc : Nat} {own E : String} {ce : Cell} {q : Addr} {mc ms : Nat} (hown : s.vm.findClass own = some m.cls) (hlocks : meth.locks = false)
    (hpass : ∀ z ∈ c.exceptionTable.toList, covers z pc = false ∨ (z.catchType ≠ 0 ∧ ∃ nm : String, (Cond.classLink own z.catchType nm).before args s = true ∧ va_Nc E nm s)) (hcell : H[q]? = some ce) (hv : ce.vm = .none) (hcl : s.vm.findClass E = some ce.cls)
    (hx : ∀ t : State, t.heap = H → s.vm.Alike t.vm → XC E s t) (hf : ∀ z ∈ locs, free z.base) (hc : cells ≤ mc) (hs : slots ≤ ms) :
    vx_W p l e R s m args below meth c H locs cells slots (vx_MQ below Qc XC args s mc ms free) (F0 m pc ls rest) q := by
  intro T hT X
  have hpl : e.platform.magicAccessors = ({} : Platform).magicAccessors := by rw [X.admits.platform]
  obtain ⟨vm', hW', X', st⟩ := X.outThrough hlocks q (g := F0 m pc ls rest) rfl rfl rfl (cell := ce) (by rw [hT]; exact hcell) (by rw [hv]; rfl)
    (by obtain ⟨k9, h9, -⟩ := Vm.findClass_spec hcl; exact ⟨k9, h9⟩) (fun z hz => by
      rcases hpass z hz with h | ⟨hz0, nm, hl1, hn1⟩
      · exact Or.inl h
      · obtain ⟨c6, hc6, hcl6⟩ := Cond.classLink_spec hown hl1 e.platform hpl
        obtain ⟨a8, b8, h1, h2, h3⟩ := hn1
        cases Option.some.inj (h1.symm.trans hcl)
        cases Option.some.inj (h2.symm.trans hc6)
        exact Or.inr ⟨hz0, _, hcl6, h3⟩)
  obtain ⟨g₀, hfr⟩ := X'.frames_eq
  have hcell9 : ((T.setVm vm').setFrames (.throwing q :: below)).heap[q]? = some ce := by
    show T.heap[q]? = some ce
    rw [hT]; exact hcell
  have hend : Ended ((T.setVm vm').setFrames (.throwing q :: below)) below (.threw q) := State.frames_setFrames _ (State.cur_lt_of_frames hfr)
  refine ⟨(T.setVm vm').setFrames (.throwing q :: below), ?_, .threw q, X'.here.running, hend, Or.inr ⟨q, rfl, E, ce, locs, hx _ hT (X'.ends _).1.alike, hcell9, hv, hcl, (X'.ends _).1, (X'.ends _).2.mono hc hs, hf⟩⟩
  rw [X.pushThrowing_eq]
  exact st
/-- a thing of a world lies in the heap -/
theorem vx_lt {D : va_G} {cl : List vw_C} {ws : va_W} {H1 : Heap} (h : va_P D cl ws H1) {k : Nat} {q : Nat × va_E} (hk : ws[k]? = some q) : q.1 < H1.size := (h k q hk).lt
end VXS
/-! ===== END ===== -/
/-! ===== BEGIN methods with a table of their own: called by a name, returning or throwing ===== -/
section VXH
/-! vx_backW, vx_callVX, vx_callSX, vx_callVW, vx_runVW, vx_runVX, vx_runSX, vx_ofWH follow the same proofs as their sisters above (Free/Laws.lean, Shelf42/LK1.lean); vx_outP calls Shelf42/NT130.lean (outThrough). -/
section
variable {l : Launch} {R : Room} {p : Program} {e : Env} {below : List Frame} {s : State} {sargs : Array Value} {y : MethodName} {len W9 : Nat}
theorem vx_backW {ws : List Cond} {rm : Room} {Pc : Array Value → State → Prop} {Qc : Array Value → State → Outcome → State → Prop} {XC : String → State → State → Prop} {mc ms : Nat} {free : Addr → Prop} {bytes : ByteArray} {maxL : Nat} {ret : Option FieldType} {hh : List (Nat × Nat × Nat × Nat)}
    (hM : vx_Met l y ws rm Pc Qc XC mc ms free) (hblind : FrameBlind Pc) (hrc : rm.cells = mc) (hrs : rm.slots = ms)
    (hframes : rm.frames + 1 ≤ R.frames) (hlocals : W9 + (maxL + 11) + rm.locals ≤ R.locals)
    (hws : ∀ w ∈ ws, ∀ a' U, s.WarmedH U.vm → w.before a' U = true) (hcode : Cond.codeWith y bytes maxL ret hh ∈ ws) (hinit : ∀ a' U, s.WarmedH U.vm → (Cond.initialized y.cls).before a' U = true) :
    vx_Back l R p e below s sargs y len W9 (PreOf R mc ms Pc) (PostOf Qc mc ms free) (vx_Post XC mc ms free) := by
  intro m meth c A g ig mk a X hg hsize hdg hW hn hp
  have h1 : (headSpec ws rm).pre.before a A.U = true := atoms_intro fun w hw => hws w hw _ _ X.warmed
  have h2 : (Cond.codeWith y bytes maxL ret hh).before a A.U = true := hws _ hcode _ _ X.warmed
  have h3 : (Cond.initialized y.cls).before a A.U = true := hinit _ _ X.warmed
  have h4 : A.cells + (headSpec ws rm).room.cells ≤ R.cells := by rw [show (headSpec ws rm).room.cells = mc from hrc]; exact hp.1
  have h5 : A.slots + (headSpec ws rm).room.slots ≤ R.slots := by rw [show (headSpec ws rm).room.slots = ms from hrs]; exact hp.2.1
  have hPc : Pc a (A.U.calling g mk a) := hblind _ _ _ _ hp.2.2
  obtain ⟨U, Ls, c0, s0⟩ := A
  dsimp only [Pt.U, Pt.locs, Pt.cells, Pt.slots] at h1 h2 h3 h4 h5 X hn hPc ⊢
  obtain ⟨m9, methY, cY, hn9, hmY, hcY, -, hlY, -⟩ := Cond.codeWith_spec h2
  cases Option.some.inj (hn9.symm.trans hn)
  obtain ⟨kY, hkY, -⟩ := className_of_methodNamed hn
  have hinitY : kY.init = .initialized := Cond.initialized_spec (findClass_of_methodNamed hn) hkY h3
  have h : At U g.method c below := by rw [hg]; exact X.here
  have hlocals9 : W9 + (maxL + 11) + (headSpec ws rm).room.locals ≤ R.locals := hlocals
  have happ : (headSpec ws rm).appliesLoose y e.platform (U.calling g mk a) = true :=
    Spec.appliesLoose_calling (g := g) h hdg hn hkY hinitY
      (X.room_calling (g := g) (R' := (headSpec ws rm).room) hsize hmY hcY hframes (by rw [hlY]; omega) h4 h5) h1
  obtain ⟨mid, hmid⟩ := h.above
  have hfr : (U.setTop g).frames = (.java g :: mid) ++ below := by rw [State.frames_setTop' g h.top, hmid]; rfl
  obtain ⟨o, s₂, hsteps, -, hend, hq⟩ := Steps.callFree hM p X.admits X.cas X.clock (acts := []) hfr happ hPc trivial
  have hq' : vx_Q Qc XC mc ms free a (U.calling g mk a) o s₂ := hq
  rw [State.frames_setTop' g h.top] at hend
  obtain ⟨g₀, hg0⟩ := Option.isSome_iff_exists.mp h.top
  obtain ⟨r, hr⟩ := State.topJava?_eq_some.mp hg0
  have hr' : (({ U with heap := s₂.heap, slotsUsed := s₂.slotsUsed } : State).setVm s₂.vm).frames = .java g₀ :: r := hr
  rcases hq' with ⟨hqc, L, hfe, hL⟩ | ⟨q, rfl, E, ce, L, hx, hce, hcv, hcl, hW₂, hsm, hL⟩
  · obtain ⟨⟨v, rfl⟩, hW₂, e2, q2, q3, q4, q5, q6⟩ := id hfe
    have e3 : s₂ = ({ (U.calling g mk a).setFrames s₂.frames with heap := s₂.heap, slotsUsed := s₂.slotsUsed } : State).setVm s₂.vm := by
      have : s₂ = ({ s₂ with vm := (U.calling g mk a).vm } : State).setVm s₂.vm := rfl
      rw [e2] at this
      exact this
    obtain ⟨c₂, i₂, len₂, hc₂, hd₂, hf₂⟩ := hend
    have hW' : U.WarmedH s₂.vm := hW₂
    have hcc : c₂ = c := by
      have h1 : s₂.code? g.method = U.code? g.method := by
        rw [State.code?_eq, State.code?_eq, hW'.alike.method?]
      exact Option.some.inj (hc₂.symm.trans (h1.trans h.code))
    subst hcc
    have hlen : len₂ = len := by rw [hdg] at hd₂; cases hd₂; rfl
    subst hlen
    have hs₂ : s₂ = (({ U with heap := s₂.heap, slotsUsed := s₂.slotsUsed } : State).setVm s₂.vm).setTop { g with pc := g.pc + len₂, stack := v.toList ++ g.stack } := by
      refine e3.trans ?_
      rw [hf₂, State.calling_eq h.top, State.setFrames_setFrames, State.setTop_of_frames _ hr', hr]
      rfl
    have hsame : U.sameButNew ({ U with heap := s₂.heap, slotsUsed := s₂.slotsUsed } : State) L mc ms := by
      refine ⟨?_, q2, q3, q4, q5, q6⟩
      obtain ⟨t, ht, -⟩ := State.frames_cons hr
      show ({ U with heap := s₂.heap, slotsUsed := s₂.slotsUsed } : State) = { U.setFrames U.frames with heap := s₂.heap, slotsUsed := s₂.slotsUsed }
      rw [State.setFrames_self ht]
    subst hg
    refine Or.inl ⟨v, ⟨(({ U with heap := s₂.heap, slotsUsed := s₂.slotsUsed } : State).setVm s₂.vm), Ls ++ L, c0 + mc, s0 + ms⟩,
      ⟨X.admits, X.cas, X.clock, X.frames, X.room, X.hears, X.method, X.code, (X.here.setHeapUsed s₂.heap s₂.slotsUsed).setVm hW'.alike, X.tail, State.WarmedH.trans X.warmed hW', X.limits, X.bytes, X.same.trans (hsame.setVm s.vm)⟩,
      ⟨g, mk, s₂, L, rfl, rfl, hqc, rfl, hL, rfl, rfl⟩, ?_⟩
    show Steps p.tables e below _ ((({ U with heap := s₂.heap, slotsUsed := s₂.slotsUsed } : State).setVm s₂.vm).setTop { g with pc := g.pc + len₂, stack := v.toList ++ g.stack })
    rw [← hs₂]
    exact hsteps
  · obtain ⟨e2, q2, q3, q4, q5, q6⟩ := id hsm
    have e3 : s₂ = ({ (U.calling g mk a).setFrames s₂.frames with heap := s₂.heap, slotsUsed := s₂.slotsUsed } : State).setVm s₂.vm := by
      have : s₂ = ({ s₂ with vm := (U.calling g mk a).vm } : State).setVm s₂.vm := rfl
      rw [e2] at this
      exact this
    have hf₂ : s₂.frames = .throwing q :: .java g :: U.frames.tail := hend
    have hW' : U.WarmedH s₂.vm := hW₂
    have hs₂ : s₂ = ((({ U with heap := s₂.heap, slotsUsed := s₂.slotsUsed } : State).setVm s₂.vm).setTop g).pushFrame (.throwing q) := by
      refine e3.trans ?_
      rw [hf₂, State.calling_eq h.top, State.setFrames_setFrames, State.pushFrame, State.frames_setTop _ hr', State.setTop_of_frames _ hr', State.setFrames_setFrames, hr]
      rfl
    have hsame : U.sameButNew ({ U with heap := s₂.heap, slotsUsed := s₂.slotsUsed } : State) L mc ms := by
      refine ⟨?_, q2, q3, q4, q5, q6⟩
      obtain ⟨t, ht, -⟩ := State.frames_cons hr
      show ({ U with heap := s₂.heap, slotsUsed := s₂.slotsUsed } : State) = { U.setFrames U.frames with heap := s₂.heap, slotsUsed := s₂.slotsUsed }
      rw [State.setFrames_self ht]
    subst hg
    refine Or.inr ⟨q, ⟨(({ U with heap := s₂.heap, slotsUsed := s₂.slotsUsed } : State).setVm s₂.vm), Ls ++ L, c0 + mc, s0 + ms⟩,
      ⟨X.admits, X.cas, X.clock, X.frames, X.room, X.hears, X.method, X.code, (X.here.setHeapUsed s₂.heap s₂.slotsUsed).setVm hW'.alike, X.tail, State.WarmedH.trans X.warmed hW', X.limits, X.bytes, X.same.trans (hsame.setVm s.vm)⟩,
      ⟨g, mk, s₂, L, E, ce, rfl, rfl, hx, hce, hcv, hcl, rfl, hL, rfl, rfl⟩, ?_⟩
    show Steps p.tables e below _ (((({ U with heap := s₂.heap, slotsUsed := s₂.slotsUsed } : State).setVm s₂.vm).setTop g).pushFrame (.throwing q))
    rw [← hs₂]
    exact hsteps
end
variable {p : Program} {l : Launch} {e : Env} {R : Room} {s : State} {m : MethodId} {args : Array Value} {below : List Frame} {meth : Method} {c : Code} {T : State} {H : Heap} {locs : List Loc} {cells slots : Nat}
theorem vx_callVX (X : Stand p l e R s m args below meth c T locs cells slots) (hexec : p.tables.exec = Jvm.exec) {own C : String} {index : Nat} {y : MethodName} {bytes : ByteArray} {maxL : Nat} {ret : Option FieldType} {hh : List (Nat × Nat × Nat × Nat)}
    (hown : s.vm.findClass own = some m.cls) (hlink : (Cond.methodLink own index y).before args s = true) (hinst : (Cond.instanceMethod y).before args s = true) (hsel : (Cond.selects C y y).before args s = true)
    (hcode : (Cond.codeWith y bytes maxL ret hh).before args s = true) (hy : y.cls ≠ "java/lang/invoke/MethodHandle" ∧ y.cls ≠ "java/lang/invoke/VarHandle")
    {W9 : Nat} {Pre : Pt → Array Value → Prop} {Post : Pt → Array Value → Option Value → Pt → Prop} {PostX : Pt → Array Value → Addr → Pt → Prop} (hK : vx_Back l R p e below s args y 3 W9 Pre Post PostX)
    {b : Addr} {cellB : Cell} (hcell : T.heap[b]? = some cellB) (hobj : cellB.vm.isStatics = false) (hcls : s.vm.findClass C = some cellB.cls)
    {g : JFrame} (hg : g.method = m) (hsize : g.locals.size = c.maxLocals) {argsL rest : List Value} (hlen : ∀ sig, parseMethodDescriptor y.desc = some sig → argsL.length = sig.parameters.length)
    (hstack : g.stack = argsL.reverse ++ .ref b :: rest) (hW : 2 * g.monitorRoom + (rest.map fun v => v.category).sum ≤ W9) (hdg : decode c.code g.pc = .ok (.invokevirtual index, 3))
    (hpre : ∀ vm₁, s.WarmedH vm₁ → Pre ⟨T.setVm vm₁, locs, cells, slots⟩ (Value.ref b :: argsL).toArray) :
    (∃ (v : Option Value) (vm₁ : Vm) (B : Pt), s.WarmedH vm₁ ∧ Stand p l e R s m args below meth c B.U B.locs B.cells B.slots ∧ Post ⟨T.setVm vm₁, locs, cells, slots⟩ (Value.ref b :: argsL).toArray v B ∧
      ∀ target, Steps p.tables e below (B.U.setTop { g with pc := g.pc + 3, stack := v.toList ++ rest }) target → Steps p.tables e below (T.setTop g) target) ∨
    (∃ (q : Addr) (vm₁ : Vm) (B : Pt), s.WarmedH vm₁ ∧ Stand p l e R s m args below meth c B.U B.locs B.cells B.slots ∧ PostX ⟨T.setVm vm₁, locs, cells, slots⟩ (Value.ref b :: argsL).toArray q B ∧
      Steps p.tables e below (T.setTop g) ((B.U.setTop { g with stack := rest }).pushFrame (.throwing q))) := by
  obtain ⟨mk, methM, hnamed, hmethM, hstM, habM⟩ := Cond.instanceMethod_spec hinst
  obtain ⟨m8, methM', cM, hn8, hmethM', -, -, -, -, -, -, hsigM⟩ := Cond.codeWith_spec hcode
  cases Option.some.inj (hn8.symm.trans hnamed)
  cases hmethM.symm.trans hmethM'
  obtain ⟨c2, r2, m2, q1, q2, q3, q4, kP, hkP, hkPi⟩ := Cond.selects_spec hsel
  cases hcls.symm.trans q1
  cases (State.methodFound?_of_named hnamed hy).symm.trans q2
  cases hnamed.symm.trans q3
  have hselP : selectMethod e.platform s.vm cellB.cls mk = .method mk := by rw [Launch.admits_selectMethod X.admits]; exact q4
  obtain ⟨vm₁, X₁, hstep₁⟩ := X.invokevirtual hexec hown hlink hnamed hmethM hstM hkP hkPi hy (a := b) (cell := cellB) hcell
    (fun z h => by rw [h] at hobj; cases hobj) hselP hmethM habM hkP hkPi (g := g) hg (argsL := argsL) (rest := rest) (hlen _ hsigM) hstack hdg
  rcases hK m meth c ⟨T.setVm vm₁, locs, cells, slots⟩ { g with stack := rest } (.invokevirtual index) mk (Value.ref b :: argsL).toArray X₁ hg hsize hdg hW (X₁.named hnamed) (hpre vm₁ X₁.warmed) with ⟨v, B, X', hpost, hsteps⟩ | ⟨q, B, X', hpost, hsteps⟩
  · exact Or.inl ⟨v, vm₁, B, X₁.warmed, X', hpost, fun target h => hstep₁ _ fun acts => by rw [doInvoke_state]; exact hsteps.trans h⟩
  · exact Or.inr ⟨q, vm₁, B, X₁.warmed, X', hpost, hstep₁ _ fun acts => by rw [doInvoke_state]; exact hsteps⟩
theorem vx_callSX (X : Stand p l e R s m args below meth c T locs cells slots) (hexec : p.tables.exec = Jvm.exec) {own : String} {index : Nat} {y : MethodName} {bytes : ByteArray} {maxL : Nat} {ret : Option FieldType} {hh : List (Nat × Nat × Nat × Nat)}
    (hown : s.vm.findClass own = some m.cls) (hlink : (Cond.methodLink own index y).before args s = true) (hstat : (Cond.static y).before args s = true) (hinit : (Cond.initialized y.cls).before args s = true)
    (hcode : (Cond.codeWith y bytes maxL ret hh).before args s = true) (hy : y.cls ≠ "java/lang/invoke/MethodHandle" ∧ y.cls ≠ "java/lang/invoke/VarHandle")
    {W9 : Nat} {Pre : Pt → Array Value → Prop} {Post : Pt → Array Value → Option Value → Pt → Prop} {PostX : Pt → Array Value → Addr → Pt → Prop} (hK : vx_Back l R p e below s args y 3 W9 Pre Post PostX)
    {g : JFrame} (hg : g.method = m) (hsize : g.locals.size = c.maxLocals) {argsL rest : List Value} (hlen : ∀ sig, parseMethodDescriptor y.desc = some sig → argsL.length = sig.parameters.length)
    (hstack : g.stack = argsL.reverse ++ rest) (hW : 2 * g.monitorRoom + (rest.map fun v => v.category).sum ≤ W9) (hdg : decode c.code g.pc = .ok (.invokestatic index, 3))
    (hpre : ∀ vm₁, s.WarmedH vm₁ → Pre ⟨T.setVm vm₁, locs, cells, slots⟩ argsL.toArray) :
    (∃ (v : Option Value) (vm₁ : Vm) (B : Pt), s.WarmedH vm₁ ∧ Stand p l e R s m args below meth c B.U B.locs B.cells B.slots ∧ Post ⟨T.setVm vm₁, locs, cells, slots⟩ argsL.toArray v B ∧
      ∀ target, Steps p.tables e below (B.U.setTop { g with pc := g.pc + 3, stack := v.toList ++ rest }) target → Steps p.tables e below (T.setTop g) target) ∨
    (∃ (q : Addr) (vm₁ : Vm) (B : Pt), s.WarmedH vm₁ ∧ Stand p l e R s m args below meth c B.U B.locs B.cells B.slots ∧ PostX ⟨T.setVm vm₁, locs, cells, slots⟩ argsL.toArray q B ∧
      Steps p.tables e below (T.setTop g) ((B.U.setTop { g with stack := rest }).pushFrame (.throwing q))) := by
  obtain ⟨mk, methM, cM, hnamed, hmethM, -, -, -, -, -, -, hsigM⟩ := Cond.codeWith_spec hcode
  have hstatic : methM.isStatic = true := Cond.static_spec hnamed hmethM hstat
  obtain ⟨kP, hkP, -⟩ := className_of_methodNamed hnamed
  have hinitP : kP.init = .initialized := Cond.initialized_spec (findClass_of_methodNamed hnamed) hkP hinit
  obtain ⟨vm₁, X₁, hstep₁⟩ := X.invokestatic hexec hown hlink hnamed hmethM hstatic hkP hinitP hy (g := g) hg (argsL := argsL) (rest := rest) (hlen _ hsigM) hstack hdg
  rcases hK m meth c ⟨T.setVm vm₁, locs, cells, slots⟩ { g with stack := rest } (.invokestatic index) mk argsL.toArray X₁ hg hsize hdg hW (X₁.named hnamed) (hpre vm₁ X₁.warmed) with ⟨v, B, X', hpost, hsteps⟩ | ⟨q, B, X', hpost, hsteps⟩
  · exact Or.inl ⟨v, vm₁, B, X₁.warmed, X', hpost, fun target h => hstep₁ _ fun acts => by rw [doInvoke_state]; exact hsteps.trans h⟩
  · exact Or.inr ⟨q, vm₁, B, X₁.warmed, X', hpost, hstep₁ _ fun acts => by rw [doInvoke_state]; exact hsteps⟩
theorem vx_callVW (X : Stand p l e R s m args below meth c T locs cells slots) (hexec : p.tables.exec = Jvm.exec) {own C : String} {index : Nat} {y : MethodName} {bytes : ByteArray} {maxL : Nat} {ret : Option FieldType} {hh : List (Nat × Nat × Nat × Nat)}
    (hown : s.vm.findClass own = some m.cls) (hlink : (Cond.methodLink own index y).before args s = true) (hinst : (Cond.instanceMethod y).before args s = true) (hsel : (Cond.selects C y y).before args s = true)
    (hcode : (Cond.codeWith y bytes maxL ret hh).before args s = true) (hy : y.cls ≠ "java/lang/invoke/MethodHandle" ∧ y.cls ≠ "java/lang/invoke/VarHandle")
    {W9 : Nat} {Pre : Pt → Array Value → Prop} {Post : Pt → Array Value → Option Value → Pt → Prop} (hK : Back l R p e below s args y 3 W9 Pre Post)
    {b : Addr} {cellB : Cell} (hcell : T.heap[b]? = some cellB) (hobj : cellB.vm.isStatics = false) (hcls : s.vm.findClass C = some cellB.cls)
    {g : JFrame} (hg : g.method = m) (hsize : g.locals.size = c.maxLocals) {argsL rest : List Value} (hlen : ∀ sig, parseMethodDescriptor y.desc = some sig → argsL.length = sig.parameters.length)
    (hstack : g.stack = argsL.reverse ++ .ref b :: rest) (hW : 2 * g.monitorRoom + (rest.map fun v => v.category).sum ≤ W9) (hdg : decode c.code g.pc = .ok (.invokevirtual index, 3))
    (hpre : ∀ vm₁, s.WarmedH vm₁ → Pre ⟨T.setVm vm₁, locs, cells, slots⟩ (Value.ref b :: argsL).toArray) :
    ∃ (v : Option Value) (vm₁ : Vm) (B : Pt), s.WarmedH vm₁ ∧ Stand p l e R s m args below meth c B.U B.locs B.cells B.slots ∧ Post ⟨T.setVm vm₁, locs, cells, slots⟩ (Value.ref b :: argsL).toArray v B ∧
      ∀ target, Steps p.tables e below (B.U.setTop { g with pc := g.pc + 3, stack := v.toList ++ rest }) target → Steps p.tables e below (T.setTop g) target := by
  obtain ⟨mk, methM, hnamed, hmethM, hstM, habM⟩ := Cond.instanceMethod_spec hinst
  obtain ⟨m8, methM', cM, hn8, hmethM', -, -, -, -, -, -, hsigM⟩ := Cond.codeWith_spec hcode
  cases Option.some.inj (hn8.symm.trans hnamed)
  cases hmethM.symm.trans hmethM'
  obtain ⟨c2, r2, m2, q1, q2, q3, q4, kP, hkP, hkPi⟩ := Cond.selects_spec hsel
  cases hcls.symm.trans q1
  cases (State.methodFound?_of_named hnamed hy).symm.trans q2
  cases hnamed.symm.trans q3
  have hselP : selectMethod e.platform s.vm cellB.cls mk = .method mk := by rw [Launch.admits_selectMethod X.admits]; exact q4
  obtain ⟨vm₁, X₁, hstep₁⟩ := X.invokevirtual hexec hown hlink hnamed hmethM hstM hkP hkPi hy (a := b) (cell := cellB) hcell
    (fun z h => by rw [h] at hobj; cases hobj) hselP hmethM habM hkP hkPi (g := g) hg (argsL := argsL) (rest := rest) (hlen _ hsigM) hstack hdg
  obtain ⟨v, B, X', hpost, hsteps⟩ := hK m meth c ⟨T.setVm vm₁, locs, cells, slots⟩ { g with stack := rest } (.invokevirtual index) mk (Value.ref b :: argsL).toArray X₁ hg hsize hdg hW (X₁.named hnamed) (hpre vm₁ X₁.warmed)
  exact ⟨v, vm₁, B, X₁.warmed, X', hpost, fun target h => hstep₁ _ fun acts => by rw [doInvoke_state]; exact hsteps.trans h⟩
abbrev vx_CVW (R : Room) (s : State) (args : Array Value) (own C : String) (index : Nat) (y : MethodName) (bytes : ByteArray) (maxL : Nat) (ret : Option FieldType) (hh : List (Nat × Nat × Nat × Nat)) (ws : List Cond) (rm : Room) (mc ms n : Nat) : Prop :=
  (rm.cells = mc ∧ rm.slots = ms ∧ rm.frames + 1 ≤ R.frames ∧ 8 + (maxL + 11) + rm.locals ≤ R.locals ∧ (∀ w ∈ ws, ∀ (a' : Array Value) (U : State), s.WarmedH U.vm → w.before a' U = true) ∧ Cond.codeWith y bytes maxL ret hh ∈ ws) ∧
  (Cond.codeWith y bytes maxL ret hh).before args s = true ∧ (Cond.initialized y.cls).before args s = true ∧ (y.cls ≠ "java/lang/invoke/MethodHandle" ∧ y.cls ≠ "java/lang/invoke/VarHandle") ∧
  (∀ sig, parseMethodDescriptor y.desc = some sig → n = sig.parameters.length) ∧ (Cond.methodLink own index y).before args s = true ∧ (Cond.instanceMethod y).before args s = true ∧ (Cond.selects C y y).before args s = true
theorem vx_cwVW {own C : String} {index maxL mc ms : Nat} {y : MethodName} {bytes : ByteArray} {ret : Option FieldType} {hh : List (Nat × Nat × Nat × Nat)} {Ts ws ws' : List Cond} {rm : Room} (n : Nat) (ht : ∀ w ∈ Ts, w.before args s = true) (hT : GoodIn Ts (wsV own index C y ws)) (hw : ws = Cond.codeWith y bytes maxL ret hh :: ws') (hrc : rm.cells = mc) (hrs : rm.slots = ms)
    (hd : y.cls = C ∧ y.cls ≠ "java/lang/invoke/MethodHandle" ∧ y.cls ≠ "java/lang/invoke/VarHandle" ∧ (parseMethodDescriptor y.desc).map (fun d => d.parameters.length) = some n) (hR : rm.frames + 1 ≤ R.frames ∧ 8 + (maxL + 11) + rm.locals ≤ R.locals) :
    vx_CVW R s args own C index y bytes maxL ret hh ws rm mc ms n := by
  obtain ⟨hC, hd⟩ := hd
  subst hC
  have ok : ∀ w ∈ wsV own index y.cls y ws, w.before args s = true := fun w h => ht w (hT w h).1
  have hG : GoodIn Ts ws := fun w h => hT w (by unfold wsV; exact List.mem_append_right _ h)
  have hc : Cond.codeWith y bytes maxL ret hh ∈ ws := by rw [hw]; exact List.mem_cons_self
  refine ⟨⟨hrc, hrs, hR.1, hR.2, pay_in ht hG, hc⟩, ht _ (hG _ hc).1, ok _ (by simp [wsV]), ⟨hd.1, hd.2.1⟩, fun sig h => ?_, ok _ (by simp [wsV]), ok _ (by simp [wsV]), ok _ (by simp [wsV])⟩
  have h2 := hd.2.2
  rw [h] at h2
  exact (Option.some.inj h2).symm
theorem vx_runVW {y : MethodName} {bytes cc : ByteArray} {maxL nL mc ms n index : Nat} {ret : Option FieldType} {hh : List (Nat × Nat × Nat × Nat)} {ws : List Cond} {rm : Room} {Pc : Array Value → State → Prop} {Qc : Array Value → State → Outcome → State → Prop} {free : Addr → Prop} {Ts : List Cond} {own C : String} {b : Addr} {As rest : List Value} {g : JFrame}
    (S : CallFix p m c cc nL s args Ts own) (hM : Met l y ws rm Pc Qc mc ms free) (cw : vx_CVW R s args own C index y bytes maxL ret hh ws rm mc ms n) (hp : PreV s H C b Pc As)
    (hg : g.method = m) (hn : As.length = n) (hsize : g.locals.size = nL) (hstack : g.stack = As.reverse ++ .ref b :: rest) (hW : 2 * g.monitorRoom + (rest.map fun v => v.category).sum ≤ 8) (hdg : decode cc g.pc = .ok (.invokevirtual index, 3)) (hf : cells + mc ≤ R.cells ∧ slots + ms ≤ R.slots) :
    va_Run p l e R s m args below meth c H locs cells slots mc ms g rest (Qc (Value.ref b :: As).toArray) free := by
  obtain ⟨⟨hrc, hrs, hfr, hlo, hws, hcw⟩, hcode, hini, hy, hlen, hl, hin, hse⟩ := cw
  have hK : Back l R p e below s args y 3 8 (PreOf R mc ms Pc) (PostOf Qc mc ms free) := va_backW (hh := hh) (bytes := bytes) (maxL := maxL) (ret := ret) hM hp.1 hrc hrs hfr hlo hws hcw (fun a' U hW => word_at hW (Or.inl (by first | rfl | simp [Cond.onTables, Cond.keeps, Cond.steady])) hini)
  obtain ⟨hx, hb, hml, ho, -⟩ := S
  obtain ⟨-, ⟨cellB, hcB, hoB, hclB⟩, hPc⟩ := hp
  intro T hT X
  obtain ⟨v, vm₁, ⟨U', l2, c2, s2⟩, hW₁, X', ⟨g', mk, t, L, e1, e2, hq, h1, hL, h2, h3⟩, st⟩ := vx_callVW X hx (C := C) (hh := hh) (bytes := bytes) (maxL := maxL) (ret := ret) ho hl hin hse hcode hy hK (by rw [hT]; exact hcB) hoB hclB hg (hsize.trans hml.symm) (argsL := As) (rest := rest) (fun sig h => hn.trans (hlen sig h)) hstack hW (by rw [hb]; exact hdg)
    (fun vm₁ hW₁ => ⟨hf.1, hf.2, hPc (T.setVm vm₁) hT hW₁⟩)
  dsimp only [Pt.U, Pt.locs, Pt.cells, Pt.slots] at X' e1 e2 h1 h2 h3 st
  subst h1; subst h2; subst h3
  exact ⟨v, (T.setVm vm₁).calling g' mk (Value.ref b :: As).toArray, t, U', L, hT, X', hL, e1, e2, hq, st⟩
section
variable {y : MethodName} {bytes cc : ByteArray} {maxL nL mc ms n index : Nat} {ret : Option FieldType} {ws : List Cond} {rm : Room} {Pc : Array Value → State → Prop} {Qc : Array Value → State → Outcome → State → Prop} {XC : String → State → State → Prop} {free : Addr → Prop} {Ts : List Cond} {own C : String} {b : Addr} {As rest : List Value} {g : JFrame}
theorem vx_runVX {hh : List (Nat × Nat × Nat × Nat)} (S : CallFix p m c cc nL s args Ts own) (hM : vx_Met l y ws rm Pc Qc XC mc ms free) (cw : vx_CVW R s args own C index y bytes maxL ret hh ws rm mc ms n) (hp : PreV s H C b Pc As)
    (hg : g.method = m) (hn : As.length = n) (hsize : g.locals.size = nL) (hstack : g.stack = As.reverse ++ .ref b :: rest) (hW : 2 * g.monitorRoom + (rest.map fun v => v.category).sum ≤ 8) (hdg : decode cc g.pc = .ok (.invokevirtual index, 3)) (hf : cells + mc ≤ R.cells ∧ slots + ms ≤ R.slots) :
    vx_Run p l e R s m args below meth c H locs cells slots mc ms g rest (Qc (Value.ref b :: As).toArray) XC free := by
  obtain ⟨⟨hrc, hrs, hfr, hlo, hws, hcw⟩, hcode, hini, hy, hlen, hl, hin, hse⟩ := cw
  have hK : vx_Back l R p e below s args y 3 8 (PreOf R mc ms Pc) (PostOf Qc mc ms free) (vx_Post XC mc ms free) := vx_backW (hh := hh) (bytes := bytes) (maxL := maxL) (ret := ret) hM hp.1 hrc hrs hfr hlo hws hcw (fun a' U hW => word_at hW (Or.inl (by first | rfl | simp [Cond.onTables, Cond.keeps, Cond.steady])) hini)
  obtain ⟨hx, hb, hml, ho, -⟩ := S
  obtain ⟨-, ⟨cellB, hcB, hoB, hclB⟩, hPc⟩ := hp
  intro T hT X
  rcases vx_callVX X hx (C := C) (hh := hh) (bytes := bytes) (maxL := maxL) (ret := ret) ho hl hin hse hcode hy hK (by rw [hT]; exact hcB) hoB hclB hg (hsize.trans hml.symm) (argsL := As) (rest := rest) (fun sig h => hn.trans (hlen sig h)) hstack hW (by rw [hb]; exact hdg)
    (fun vm₁ hW₁ => ⟨hf.1, hf.2, hPc (T.setVm vm₁) hT hW₁⟩) with ⟨v, vm₁, ⟨U', l2, c2, s2⟩, hW₁, X', ⟨g', mk, t, L, e1, e2, hq, h1, hL, h2, h3⟩, st⟩ | ⟨q, vm₁, ⟨U', l2, c2, s2⟩, hW₁, X', ⟨g', mk, t, L, E, ce, e1, e2, hq, hce, hcv, hcl, h1, hL, h2, h3⟩, st⟩
  · dsimp only [Pt.U, Pt.locs, Pt.cells, Pt.slots] at X' e1 e2 h1 h2 h3 st
    subst h1; subst h2; subst h3
    exact Or.inl ⟨v, (T.setVm vm₁).calling g' mk (Value.ref b :: As).toArray, t, U', L, hT, X', hL, e1, e2, hq, st⟩
  · dsimp only [Pt.U, Pt.locs, Pt.cells, Pt.slots] at X' e1 e2 h1 h2 h3 st hcl
    subst h1; subst h2; subst h3
    exact Or.inr ⟨q, (T.setVm vm₁).calling g' mk (Value.ref b :: As).toArray, t, U', L, E, ce, hT, X', hL, e1, e2, hq, hce, hcv, vx_cls hW₁ hcl, st⟩
theorem vx_runSX {hh : List (Nat × Nat × Nat × Nat)} (S : CallFix p m c cc nL s args Ts own) (hM : vx_Met l y ws rm Pc Qc XC mc ms free) (cw : vx_CSW R s args own index y bytes maxL ret hh ws rm mc ms n) (hp : PreS s H Pc As)
    (hg : g.method = m) (hn : As.length = n) (hsize : g.locals.size = nL) (hstack : g.stack = As.reverse ++ rest) (hW : 2 * g.monitorRoom + (rest.map fun v => v.category).sum ≤ 8) (hdg : decode cc g.pc = .ok (.invokestatic index, 3)) (hf : cells + mc ≤ R.cells ∧ slots + ms ≤ R.slots) :
    vx_Run p l e R s m args below meth c H locs cells slots mc ms g rest (Qc As.toArray) XC free := by
  obtain ⟨⟨hrc, hrs, hfr, hlo, hws, hcw⟩, hcode, hini, hy, hlen, hl, hstt⟩ := cw
  have hK : vx_Back l R p e below s args y 3 8 (PreOf R mc ms Pc) (PostOf Qc mc ms free) (vx_Post XC mc ms free) := vx_backW (hh := hh) (bytes := bytes) (maxL := maxL) (ret := ret) hM hp.1 hrc hrs hfr hlo hws hcw (fun a' U hW => word_at hW (Or.inl (by first | rfl | simp [Cond.onTables, Cond.keeps, Cond.steady])) hini)
  obtain ⟨hx, hb, hml, ho, -⟩ := S
  intro T hT X
  rcases vx_callSX X hx (hh := hh) (bytes := bytes) (maxL := maxL) (ret := ret) ho hl hstt hini hcode hy hK hg (hsize.trans hml.symm) (argsL := As) (rest := rest) (fun sig h => hn.trans (hlen sig h)) hstack hW (by rw [hb]; exact hdg)
    (fun vm₁ hW₁ => ⟨hf.1, hf.2, hp.2 (T.setVm vm₁) hT hW₁⟩) with ⟨v, vm₁, ⟨U', l2, c2, s2⟩, hW₁, X', ⟨g', mk, t, L, e1, e2, hq, h1, hL, h2, h3⟩, st⟩ | ⟨q, vm₁, ⟨U', l2, c2, s2⟩, hW₁, X', ⟨g', mk, t, L, E, ce, e1, e2, hq, hce, hcv, hcl, h1, hL, h2, h3⟩, st⟩
  · dsimp only [Pt.U, Pt.locs, Pt.cells, Pt.slots] at X' e1 e2 h1 h2 h3 st
    subst h1; subst h2; subst h3
    exact Or.inl ⟨v, (T.setVm vm₁).calling g' mk As.toArray, t, U', L, hT, X', hL, e1, e2, hq, st⟩
  · dsimp only [Pt.U, Pt.locs, Pt.cells, Pt.slots] at X' e1 e2 h1 h2 h3 st hcl
    subst h1; subst h2; subst h3
    exact Or.inr ⟨q, (T.setVm vm₁).calling g' mk As.toArray, t, U', L, E, ce, hT, X', hL, e1, e2, hq, hce, hcv, vx_cls hW₁ hcl, st⟩
end
end VXH
theorem vx_ofWH {l : Launch} {y : MethodName} {ws ws' : List Cond} {rm : Room} {Pc : Array Value → State → Prop} {Qc : Array Value → State → Outcome → State → Prop} {XC : String → State → State → Prop} {mc ms : Nat} {free : Addr → Prop} {cc : ByteArray} {maxL : Nat} {ret : Option FieldType} {hh : List (Nat × Nat × Nat × Nat)}
    (hy : plainName y.cls = true) (hw : ws = Cond.codeWith y cc maxL ret hh :: ws')
    (body : ∀ p e s m args below meth c s₁, BodyLoose p l y (headSpec ws rm) cc maxL ret e s m args below meth c s₁ → c.maxLocals = maxL → Pc args s →
      W p l e (headSpec ws rm).room s m args below meth c s.heap [] 0 0 (vx_MQ below Qc XC args s mc ms free) (entryFrame m args maxL)) : vx_Met l y ws rm Pc Qc XC mc ms free := by
  refine MetFree.of_bodyS (code := cc) (maxLocals := maxL) (ret := ret) hy ?_ ?_
  · intro args s m h hn
    obtain ⟨m9, meth, c, hn9, h1, h2, h3, h4, -, h5, h6, -⟩ := Cond.codeWith_spec (atoms_spec (ws := ws) h _ (by rw [hw]; exact List.mem_cons_self))
    cases hn.symm.trans hn9
    exact ⟨meth, c, h1, h2, h3, h4, h5, h6⟩
  · intro p e s m args below meth c s₁ B hml hP _
    have hh0 : s₁.heap = s.heap := by rw [B.state]; rfl
    obtain ⟨t, a1, o, b1, b2, b3⟩ := body p e s m args below meth c s₁ B hml hP s₁ hh0 (Stand.of_body B)
    exact ⟨t, o, a1, b1, b2, b3⟩
/-! ===== END ===== -/
end
section
-- ===== PART A: goes FIRST, ahead of the names: the tables' words, and 'selects' of the private methods out of them =====
/-- a private method of a class that the tables say can be made, by its rows of tables_1 -/
def lw_okq (q : MethodName × Nat) : Prop := (q.1.cls ≠ "java/lang/invoke/MethodHandle" ∧ q.1.cls ≠ "java/lang/invoke/VarHandle") ∧ Cond.instantiable q.1.cls q.2 ∈ tables_1 ∧ Cond.privateMethod q.1 ∈ tables_1 ∧ Cond.instanceMethod q.1 ∈ tables_1
theorem lw_p0 : lw_okq (⟨"java/lang/Throwable", "fillInStackTrace", "(I)Ljava/lang/Throwable;"⟩, 6) := ⟨⟨by decide +kernel, by decide +kernel⟩, List.mem_of_getElem? (i := 199) (by decide +kernel), List.mem_of_getElem? (i := 197) (by decide +kernel), List.mem_of_getElem? (i := 198) (by decide +kernel)⟩
theorem lw_p1 : lw_okq (⟨"LeafCradles$Archive", "sumOverVolumes", "(I)I"⟩, 8) := ⟨⟨by decide +kernel, by decide +kernel⟩, List.mem_of_getElem? (i := 23) (by decide +kernel), List.mem_of_getElem? (i := 233) (by decide +kernel), List.mem_of_getElem? (i := 234) (by decide +kernel)⟩
theorem lw_p2 : lw_okq (⟨"LeafCradles$Archive", "leavesInCondition", "(II)I"⟩, 8) := ⟨⟨by decide +kernel, by decide +kernel⟩, List.mem_of_getElem? (i := 23) (by decide +kernel), List.mem_of_getElem? (i := 249) (by decide +kernel), List.mem_of_getElem? (i := 250) (by decide +kernel)⟩
theorem lw_p3 : lw_okq (⟨"LeafCradles$Archive", "openLeaves", "(I)I"⟩, 8) := ⟨⟨by decide +kernel, by decide +kernel⟩, List.mem_of_getElem? (i := 23) (by decide +kernel), List.mem_of_getElem? (i := 253) (by decide +kernel), List.mem_of_getElem? (i := 254) (by decide +kernel)⟩
theorem lw_p4 : lw_okq (⟨"LeafCradles$Archive", "isOpen", "(II)Z"⟩, 8) := ⟨⟨by decide +kernel, by decide +kernel⟩, List.mem_of_getElem? (i := 23) (by decide +kernel), List.mem_of_getElem? (i := 257) (by decide +kernel), List.mem_of_getElem? (i := 258) (by decide +kernel)⟩
theorem lw_p5 : lw_okq (⟨"LeafCradles$Archive", "nextLeaf", "(I)I"⟩, 8) := ⟨⟨by decide +kernel, by decide +kernel⟩, List.mem_of_getElem? (i := 23) (by decide +kernel), List.mem_of_getElem? (i := 261) (by decide +kernel), List.mem_of_getElem? (i := 262) (by decide +kernel)⟩
theorem lw_p6 : lw_okq (⟨"LeafCradles$Archive", "scansOf", "(I)I"⟩, 8) := ⟨⟨by decide +kernel, by decide +kernel⟩, List.mem_of_getElem? (i := 23) (by decide +kernel), List.mem_of_getElem? (i := 265) (by decide +kernel), List.mem_of_getElem? (i := 266) (by decide +kernel)⟩
theorem lw_p7 : lw_okq (⟨"LeafCradles$Archive", "freeCradles", "()I"⟩, 8) := ⟨⟨by decide +kernel, by decide +kernel⟩, List.mem_of_getElem? (i := 23) (by decide +kernel), List.mem_of_getElem? (i := 269) (by decide +kernel), List.mem_of_getElem? (i := 270) (by decide +kernel)⟩
theorem lw_p8 : lw_okq (⟨"LeafCradles", "requireVolume", "(I)V"⟩, 3) := ⟨⟨by decide +kernel, by decide +kernel⟩, List.mem_of_getElem? (i := 15) (by decide +kernel), List.mem_of_getElem? (i := 294) (by decide +kernel), List.mem_of_getElem? (i := 295) (by decide +kernel)⟩
theorem lw_p9 : lw_okq (⟨"LeafCradles", "requireCradle", "(I)V"⟩, 3) := ⟨⟨by decide +kernel, by decide +kernel⟩, List.mem_of_getElem? (i := 15) (by decide +kernel), List.mem_of_getElem? (i := 353) (by decide +kernel), List.mem_of_getElem? (i := 354) (by decide +kernel)⟩
theorem lw_p10 : lw_okq (⟨"LeafCradles$Archive", "reasonOfRest", "(I)I"⟩, 8) := ⟨⟨by decide +kernel, by decide +kernel⟩, List.mem_of_getElem? (i := 23) (by decide +kernel), List.mem_of_getElem? (i := 361) (by decide +kernel), List.mem_of_getElem? (i := 362) (by decide +kernel)⟩
theorem lw_p11 : lw_okq (⟨"LeafCradles", "requireCarrier", "(I)V"⟩, 3) := ⟨⟨by decide +kernel, by decide +kernel⟩, List.mem_of_getElem? (i := 15) (by decide +kernel), List.mem_of_getElem? (i := 376) (by decide +kernel), List.mem_of_getElem? (i := 377) (by decide +kernel)⟩
theorem lw_p12 : lw_okq (⟨"LeafCradles$Archive", "copyForTrial", "(II)V"⟩, 8) := ⟨⟨by decide +kernel, by decide +kernel⟩, List.mem_of_getElem? (i := 23) (by decide +kernel), List.mem_of_getElem? (i := 421) (by decide +kernel), List.mem_of_getElem? (i := 422) (by decide +kernel)⟩
theorem lw_p13 : lw_okq (⟨"LeafCradles$Archive", "workFor", "(III)I"⟩, 8) := ⟨⟨by decide +kernel, by decide +kernel⟩, List.mem_of_getElem? (i := 23) (by decide +kernel), List.mem_of_getElem? (i := 432) (by decide +kernel), List.mem_of_getElem? (i := 433) (by decide +kernel)⟩
theorem lw_p14 : lw_okq (⟨"LeafCradles$Archive", "scan", "(II)V"⟩, 8) := ⟨⟨by decide +kernel, by decide +kernel⟩, List.mem_of_getElem? (i := 23) (by decide +kernel), List.mem_of_getElem? (i := 441) (by decide +kernel), List.mem_of_getElem? (i := 442) (by decide +kernel)⟩
theorem lw_p15 : lw_okq (⟨"LeafCradles$Archive", "minutesOfWay", "(II)I"⟩, 8) := ⟨⟨by decide +kernel, by decide +kernel⟩, List.mem_of_getElem? (i := 23) (by decide +kernel), List.mem_of_getElem? (i := 471) (by decide +kernel), List.mem_of_getElem? (i := 472) (by decide +kernel)⟩
def lw_privs_1 : List (MethodName × Nat) := [(⟨"java/lang/Throwable", "fillInStackTrace", "(I)Ljava/lang/Throwable;"⟩, 6), (⟨"LeafCradles$Archive", "sumOverVolumes", "(I)I"⟩, 8), (⟨"LeafCradles$Archive", "leavesInCondition", "(II)I"⟩, 8), (⟨"LeafCradles$Archive", "openLeaves", "(I)I"⟩, 8), (⟨"LeafCradles$Archive", "isOpen", "(II)Z"⟩, 8), (⟨"LeafCradles$Archive", "nextLeaf", "(I)I"⟩, 8), (⟨"LeafCradles$Archive", "scansOf", "(I)I"⟩, 8), (⟨"LeafCradles$Archive", "freeCradles", "()I"⟩, 8), (⟨"LeafCradles", "requireVolume", "(I)V"⟩, 3), (⟨"LeafCradles", "requireCradle", "(I)V"⟩, 3), (⟨"LeafCradles$Archive", "reasonOfRest", "(I)I"⟩, 8), (⟨"LeafCradles", "requireCarrier", "(I)V"⟩, 3), (⟨"LeafCradles$Archive", "copyForTrial", "(II)V"⟩, 8), (⟨"LeafCradles$Archive", "workFor", "(III)I"⟩, 8), (⟨"LeafCradles$Archive", "scan", "(II)V"⟩, 8), (⟨"LeafCradles$Archive", "minutesOfWay", "(II)I"⟩, 8)]
theorem lw_r1 : ∀ q ∈ lw_privs_1, lw_okq q := List.forall_mem_cons.mpr ⟨lw_p0, List.forall_mem_cons.mpr ⟨lw_p1, List.forall_mem_cons.mpr ⟨lw_p2, List.forall_mem_cons.mpr ⟨lw_p3, List.forall_mem_cons.mpr ⟨lw_p4, List.forall_mem_cons.mpr ⟨lw_p5, List.forall_mem_cons.mpr ⟨lw_p6, List.forall_mem_cons.mpr ⟨lw_p7, List.forall_mem_cons.mpr ⟨lw_p8, List.forall_mem_cons.mpr ⟨lw_p9, List.forall_mem_cons.mpr ⟨lw_p10, List.forall_mem_cons.mpr ⟨lw_p11, List.forall_mem_cons.mpr ⟨lw_p12, List.forall_mem_cons.mpr ⟨lw_p13, List.forall_mem_cons.mpr ⟨lw_p14, List.forall_mem_cons.mpr ⟨lw_p15, fun _ h => absurd h List.not_mem_nil⟩⟩⟩⟩⟩⟩⟩⟩⟩⟩⟩⟩⟩⟩⟩⟩
theorem lw_p16 : lw_okq (⟨"LeafCradles$LoadPlan", "note", "(I)V"⟩, 4) := ⟨⟨by decide +kernel, by decide +kernel⟩, List.mem_of_getElem? (i := 123) (by decide +kernel), List.mem_of_getElem? (i := 525) (by decide +kernel), List.mem_of_getElem? (i := 526) (by decide +kernel)⟩
theorem lw_p17 : lw_okq (⟨"LeafCradles$Table", "hasCopy", "(I)Z"⟩, 4) := ⟨⟨by decide +kernel, by decide +kernel⟩, List.mem_of_getElem? (i := 29) (by decide +kernel), List.mem_of_getElem? (i := 565) (by decide +kernel), List.mem_of_getElem? (i := 566) (by decide +kernel)⟩
theorem lw_p18 : lw_okq (⟨"LeafCradles$Archive", "startWay", "(III)I"⟩, 8) := ⟨⟨by decide +kernel, by decide +kernel⟩, List.mem_of_getElem? (i := 23) (by decide +kernel), List.mem_of_getElem? (i := 600) (by decide +kernel), List.mem_of_getElem? (i := 601) (by decide +kernel)⟩
theorem lw_p19 : lw_okq (⟨"LeafCradles$BarText", "begin", "(I)V"⟩, 9) := ⟨⟨by decide +kernel, by decide +kernel⟩, List.mem_of_getElem? (i := 87) (by decide +kernel), List.mem_of_getElem? (i := 673) (by decide +kernel), List.mem_of_getElem? (i := 674) (by decide +kernel)⟩
theorem lw_p20 : lw_okq (⟨"LeafCradles$BarText", "accepts", "(I)Z"⟩, 9) := ⟨⟨by decide +kernel, by decide +kernel⟩, List.mem_of_getElem? (i := 87) (by decide +kernel), List.mem_of_getElem? (i := 681) (by decide +kernel), List.mem_of_getElem? (i := 682) (by decide +kernel)⟩
theorem lw_p21 : lw_okq (⟨"LeafCradles$BarText", "acceptsDash", "()Z"⟩, 9) := ⟨⟨by decide +kernel, by decide +kernel⟩, List.mem_of_getElem? (i := 87) (by decide +kernel), List.mem_of_getElem? (i := 685) (by decide +kernel), List.mem_of_getElem? (i := 686) (by decide +kernel)⟩
theorem lw_p22 : lw_okq (⟨"LeafCradles$BarText", "acceptsColon", "()Z"⟩, 9) := ⟨⟨by decide +kernel, by decide +kernel⟩, List.mem_of_getElem? (i := 87) (by decide +kernel), List.mem_of_getElem? (i := 689) (by decide +kernel), List.mem_of_getElem? (i := 690) (by decide +kernel)⟩
theorem lw_p23 : lw_okq (⟨"LeafCradles$BarText", "leastNumber", "()I"⟩, 9) := ⟨⟨by decide +kernel, by decide +kernel⟩, List.mem_of_getElem? (i := 87) (by decide +kernel), List.mem_of_getElem? (i := 693) (by decide +kernel), List.mem_of_getElem? (i := 694) (by decide +kernel)⟩
theorem lw_p24 : lw_okq (⟨"LeafCradles$BarText", "acceptsComma", "()Z"⟩, 9) := ⟨⟨by decide +kernel, by decide +kernel⟩, List.mem_of_getElem? (i := 87) (by decide +kernel), List.mem_of_getElem? (i := 697) (by decide +kernel), List.mem_of_getElem? (i := 698) (by decide +kernel)⟩
theorem lw_p25 : lw_okq (⟨"LeafCradles$BarText", "acceptsDigit", "(I)Z"⟩, 9) := ⟨⟨by decide +kernel, by decide +kernel⟩, List.mem_of_getElem? (i := 87) (by decide +kernel), List.mem_of_getElem? (i := 705) (by decide +kernel), List.mem_of_getElem? (i := 706) (by decide +kernel)⟩
theorem lw_p26 : lw_okq (⟨"LeafCradles$BarText", "greatestNumber", "()I"⟩, 9) := ⟨⟨by decide +kernel, by decide +kernel⟩, List.mem_of_getElem? (i := 87) (by decide +kernel), List.mem_of_getElem? (i := 709) (by decide +kernel), List.mem_of_getElem? (i := 710) (by decide +kernel)⟩
theorem lw_p27 : lw_okq (⟨"LeafCradles$BarText", "keepPart", "()V"⟩, 9) := ⟨⟨by decide +kernel, by decide +kernel⟩, List.mem_of_getElem? (i := 87) (by decide +kernel), List.mem_of_getElem? (i := 716) (by decide +kernel), List.mem_of_getElem? (i := 717) (by decide +kernel)⟩
def lw_privs_2 : List (MethodName × Nat) := [(⟨"LeafCradles$LoadPlan", "note", "(I)V"⟩, 4), (⟨"LeafCradles$Table", "hasCopy", "(I)Z"⟩, 4), (⟨"LeafCradles$Archive", "startWay", "(III)I"⟩, 8), (⟨"LeafCradles$BarText", "begin", "(I)V"⟩, 9), (⟨"LeafCradles$BarText", "accepts", "(I)Z"⟩, 9), (⟨"LeafCradles$BarText", "acceptsDash", "()Z"⟩, 9), (⟨"LeafCradles$BarText", "acceptsColon", "()Z"⟩, 9), (⟨"LeafCradles$BarText", "leastNumber", "()I"⟩, 9), (⟨"LeafCradles$BarText", "acceptsComma", "()Z"⟩, 9), (⟨"LeafCradles$BarText", "acceptsDigit", "(I)Z"⟩, 9), (⟨"LeafCradles$BarText", "greatestNumber", "()I"⟩, 9), (⟨"LeafCradles$BarText", "keepPart", "()V"⟩, 9)]
theorem lw_r2 : ∀ q ∈ lw_privs_2, lw_okq q := List.forall_mem_cons.mpr ⟨lw_p16, List.forall_mem_cons.mpr ⟨lw_p17, List.forall_mem_cons.mpr ⟨lw_p18, List.forall_mem_cons.mpr ⟨lw_p19, List.forall_mem_cons.mpr ⟨lw_p20, List.forall_mem_cons.mpr ⟨lw_p21, List.forall_mem_cons.mpr ⟨lw_p22, List.forall_mem_cons.mpr ⟨lw_p23, List.forall_mem_cons.mpr ⟨lw_p24, List.forall_mem_cons.mpr ⟨lw_p25, List.forall_mem_cons.mpr ⟨lw_p26, List.forall_mem_cons.mpr ⟨lw_p27, fun _ h => absurd h List.not_mem_nil⟩⟩⟩⟩⟩⟩⟩⟩⟩⟩⟩⟩
def lw_privs : List (MethodName × Nat) := lw_privs_1 ++ (lw_privs_2)
def lw_tbl : List Cond := k2_sels lw_privs ++ tables_1
theorem lw_privs_ok : ∀ q ∈ lw_privs, lw_okq q := by
  show ∀ q ∈ lw_privs_1 ++ (lw_privs_2), lw_okq q
  exact List.forall_mem_append.mpr ⟨lw_r1, lw_r2⟩
/-- the streams that the claim lets the run draw from -/
abbrev lw_cs : List Choice := [Jvm.Choice.named "NaN.bits"]
theorem lw_bits : nanBits ∈ lw_cs := by first | decide | exact List.mem_cons_self | simp [lw_cs, nanBits]
end
section
def RX0 : String := "LeafCradles$Archive"
def TX0 : u_T := fun k => match k with
  | 0 => ("LeafCradles$Archive", "volumes", "LLeafCradles$Table;", true)
  | 1 => ("LeafCradles$Archive", "leaves", "LLeafCradles$Table;", true)
  | 2 => ("LeafCradles$Archive", "cradles", "LLeafCradles$Table;", true)
  | 3 => ("LeafCradles$Archive", "carriers", "LLeafCradles$Table;", true)
  | 4 => ("LeafCradles$Archive", "entries", "LLeafCradles$Table;", true)
  | 5 => ("LeafCradles$Archive", "numbers", "LLeafCradles$Table;", true)
  | 6 => ("LeafCradles$Archive", "oldestSave", "I", false)
  | _ => ("LeafCradles$Archive", "saveCount", "I", false)
def tyX0 : Nat → FieldType := fun k => match k with
  | 0 => .object "LeafCradles$Table"
  | 1 => .object "LeafCradles$Table"
  | 2 => .object "LeafCradles$Table"
  | 3 => .object "LeafCradles$Table"
  | 4 => .object "LeafCradles$Table"
  | 5 => .object "LeafCradles$Table"
  | 6 => .int
  | _ => .int
theorem nmX0 : ∀ a, a < 8 → ∀ b, b < 8 → a ≠ b → (TX0 a).2.1 ≠ (TX0 b).2.1 := by decide +kernel
theorem tyX0_ok : ∀ k, k < 8 → parseFieldDescriptor (TX0 k).2.2.1 = some (tyX0 k) := by decide +kernel
def RX1 : String := "LeafCradles$BarText"
def TX1 : u_T := fun k => match k with
  | 0 => ("LeafCradles$BarText", "codes", "[I", true)
  | 1 => ("LeafCradles$BarText", "parts", "LLeafCradles$Table;", true)
  | 2 => ("LeafCradles$BarText", "length", "I", false)
  | 3 => ("LeafCradles$BarText", "partCount", "I", false)
  | 4 => ("LeafCradles$BarText", "reading", "I", false)
  | 5 => ("LeafCradles$BarText", "value", "I", false)
  | 6 => ("LeafCradles$BarText", "digits", "I", false)
  | 7 => ("LeafCradles$BarText", "first", "I", false)
  | _ => ("LeafCradles$BarText", "last", "I", false)
def tyX1 : Nat → FieldType := fun k => match k with
  | 0 => .array .int
  | 1 => .object "LeafCradles$Table"
  | 2 => .int
  | 3 => .int
  | 4 => .int
  | 5 => .int
  | 6 => .int
  | 7 => .int
  | _ => .int
theorem nmX1 : ∀ a, a < 9 → ∀ b, b < 9 → a ≠ b → (TX1 a).2.1 ≠ (TX1 b).2.1 := by decide +kernel
theorem tyX1_ok : ∀ k, k < 9 → parseFieldDescriptor (TX1 k).2.2.1 = some (tyX1 k) := by decide +kernel
def RX2 : String := "LeafCradles$LoadPlan"
def TX2 : u_T := fun k => match k with
  | 0 => ("LeafCradles$LoadPlan", "gains", "LLeafCradles$Table;", true)
  | 1 => ("LeafCradles$LoadPlan", "hopes", "LLeafCradles$Table;", true)
  | 2 => ("LeafCradles$LoadPlan", "chosen", "LLeafCradles$Table;", true)
  | _ => ("LeafCradles$LoadPlan", "most", "I", false)
def tyX2 : Nat → FieldType := fun k => match k with
  | 0 => .object "LeafCradles$Table"
  | 1 => .object "LeafCradles$Table"
  | 2 => .object "LeafCradles$Table"
  | _ => .int
theorem nmX2 : ∀ a, a < 4 → ∀ b, b < 4 → a ≠ b → (TX2 a).2.1 ≠ (TX2 b).2.1 := by decide +kernel
theorem tyX2_ok : ∀ k, k < 4 → parseFieldDescriptor (TX2 k).2.2.1 = some (tyX2 k) := by decide +kernel
def RX3 : String := "LeafCradles$Table"
def TX3 : u_T := fun k => match k with
  | 0 => ("LeafCradles$Table", "rows", "I", true)
  | 1 => ("LeafCradles$Table", "width", "I", true)
  | 2 => ("LeafCradles$Table", "cells", "[I", true)
  | _ => ("LeafCradles$Table", "copies", "[I", true)
def tyX3 : Nat → FieldType := fun k => match k with
  | 0 => .int
  | 1 => .int
  | 2 => .array .int
  | _ => .array .int
theorem nmX3 : ∀ a, a < 4 → ∀ b, b < 4 → a ≠ b → (TX3 a).2.1 ≠ (TX3 b).2.1 := by decide +kernel
theorem tyX3_ok : ∀ k, k < 4 → parseFieldDescriptor (TX3 k).2.2.1 = some (tyX3 k) := by decide +kernel
def RX4 : String := "LeafCradles"
def TX4 : u_T := fun k => match k with
  | 0 => ("LeafCradles", "archive", "LLeafCradles$Archive;", true)
  | 1 => ("LeafCradles", "text", "LLeafCradles$BarText;", true)
  | _ => ("LeafCradles", "plan", "LLeafCradles$LoadPlan;", true)
def tyX4 : Nat → FieldType := fun k => match k with
  | 0 => .object "LeafCradles$Archive"
  | 1 => .object "LeafCradles$BarText"
  | _ => .object "LeafCradles$LoadPlan"
theorem nmX4 : ∀ a, a < 3 → ∀ b, b < 3 → a ≠ b → (TX4 a).2.1 ≠ (TX4 b).2.1 := by decide +kernel
theorem tyX4_ok : ∀ k, k < 3 → parseFieldDescriptor (TX4 k).2.2.1 = some (tyX4 k) := by decide +kernel
abbrev vwCl : List vw_C := [(RX0, TX0, 8), (RX1, TX1, 9), (RX2, TX2, 4), (RX3, TX3, 4), (RX4, TX4, 3)]
end
section
/-! THE SMALL MACHINE. A heap is a list of segments (segment 0: old arrays that nobody writes; the last: what is made later); a reference is 4096 * segment + place. -/
abbrev AC : Type := ((Nat × (Nat → Int32)) ⊕ (Nat × (Nat → Int64))) ⊕ (Nat × List Value)
abbrev AH : Type := List (List AC)
abbrev AL : Type := List (Option Value)
def ab_get (h : AH) (r : Nat) : Option AC := match h[r / 4096]? with
  | some s => s[r % 4096]?
  | none => none
def ab_set (h : AH) (r : Nat) (c : AC) : AH := match h[r / 4096]? with
  | some s => h.set (r / 4096) (s.set (r % 4096) c)
  | none => h
/-- the surroundings: launch, class ids, the classes of int and long arrays, old addresses, the first new address, the segments' sizes, whether nothing else is made -/
abbrev AE : Type := Launch × va_G × ClassId × ClassId × (Nat → Nat) × Nat × List Nat × Bool
abbrev AE.l (E : AE) : Launch := E.1
abbrev AE.D (E : AE) : va_G := E.2.1
abbrev AE.cI (E : AE) : ClassId := E.2.2.1
abbrev AE.cJ (E : AE) : ClassId := E.2.2.2.1
abbrev AE.old (E : AE) : Nat → Nat := E.2.2.2.2.1
abbrev AE.N0 (E : AE) : Nat := E.2.2.2.2.2.1
abbrev AE.caps (E : AE) : List Nat := E.2.2.2.2.2.2.1
abbrev AE.ex (E : AE) : Bool := E.2.2.2.2.2.2.2
def ab_A (E : AE) : Nat → Prop := fun q => E.N0 ≤ q
def ab_off (cs : List Nat) (j : Nat) : Nat := (cs.take j).sum
def ab_adr (E : AE) (r : Nat) : Nat := if r / 4096 = 0 then E.old (r % 4096) else E.N0 + ab_off E.caps (r / 4096 - 1) + r % 4096
def ab_v (E : AE) : Value → Value
  | .ref r => .ref (ab_adr E r)
  | v => v
def ab_cell (E : AE) : AC → va_E
  | .inl (.inl a) => .inl (E.cI, a.1, .inl a.2)
  | .inl (.inr a) => .inl (E.cJ, a.1, .inr (.inl a.2))
  | .inr o => .inr (o.1, o.2.map (ab_v E))
abbrev ab_tys (E : AE) : List (ClassId × FieldType) := [(E.cI, .int)]
/-- an old array of ints: of at least L places, its length as an int L's -/
def ab_X (b L : Nat) (xs : Nat → Int32) (U : State) (H : Heap) : Prop := ∃ scr : Cell, H[b]? = some scr ∧ U.isArrayOf scr .int ∧ scr.vm ≠ .unknown ∧ L ≤ scr.slots.size ∧ scr.slots.size.toInt32 = Int32.ofNat L ∧ ∀ j : Nat, j < L → scr.slots[j]? = some (.int (xs j))
theorem ab_X.kept {b L : Nat} {xs : Nat → Int32} {U : State} {H H1 : Heap} (h : ab_X b L xs U H) (hq : H1[b]? = H[b]?) : ab_X b L xs U H1 := by
  obtain ⟨scr, h1, h2⟩ := h
  exact ⟨scr, by rw [hq]; exact h1, h2⟩
theorem ab_X.moved {b L : Nat} {xs : Nat → Int32} {u U : State} {H : Heap} (hvm : u.vm.Alike U.vm) (h : ab_X b L xs u H) : ab_X b L xs U H := by
  obtain ⟨scr, h1, h2, h3⟩ := h
  exact ⟨scr, h1, State.isArrayOf_alike hvm h2, h3⟩
/-- the heap H holds h -/
def ab_R (E : AE) (h : AH) (U : State) (H : Heap) : Prop :=
  (∀ (j n : Nat), E.caps[j]? = some n → ∃ s, h[j + 1]? = some s ∧ s.length = n) ∧
  (∃ tl, h[E.caps.length + 1]? = some tl ∧ E.N0 + E.caps.sum + tl.length ≤ H.size ∧ (E.ex = true → H.size = E.N0 + E.caps.sum + tl.length)) ∧
  h.length = E.caps.length + 2 ∧
  (∀ (r : Nat) (c : AC), ¬ r / 4096 = 0 → ab_get h r = some c → va_at E.D vwCl (ab_adr E r, ab_cell E c) H) ∧
  (∀ (r : Nat) (c : AC), r / 4096 = 0 → ab_get h r = some c → ∃ (n : Nat) (f : Nat → Int32), c = .inl (.inl (n, f)) ∧ ab_adr E r < E.N0 ∧ ab_X (ab_adr E r) n f U H)
theorem ab_off_le (cs : List Nat) : ∀ i j : Nat, i ≤ j → ab_off cs i ≤ ab_off cs j := by
  intro i j h
  unfold ab_off
  induction cs generalizing i j with
  | nil => simp
  | cons c cs ih =>
    cases i with
    | zero => simp
    | succ i =>
      cases j with
      | zero => omega
      | succ j =>
        simp only [List.take_succ_cons, List.sum_cons]
        have := ih i j (by omega)
        omega
theorem ab_off_succ (cs : List Nat) : ∀ (j n : Nat), cs[j]? = some n → ab_off cs (j + 1) = ab_off cs j + n := by
  intro j n h
  unfold ab_off
  induction cs generalizing j with
  | nil => simp at h
  | cons c cs ih =>
    cases j with
    | zero => simp at h; subst h; simp
    | succ j =>
      simp only [List.take_succ_cons, List.sum_cons, List.getElem?_cons_succ] at h ⊢
      have := ih j h
      omega
theorem ab_off_all (cs : List Nat) : ab_off cs cs.length = cs.sum := by unfold ab_off; rw [List.take_length]
theorem ab_get_some {h : AH} {r : Nat} {c : AC} (hg : ab_get h r = some c) : ∃ s, h[r / 4096]? = some s ∧ s[r % 4096]? = some c := by
  unfold ab_get at hg
  cases hs : h[r / 4096]? with
  | none => rw [hs] at hg; cases hg
  | some s => rw [hs] at hg; exact ⟨s, rfl, hg⟩
/-- where a place of a new segment lies -/
theorem ab_where {E : AE} {h : AH} {U : State} {H : Heap} (hR : ab_R E h U H) {r : Nat} {c : AC} (h0 : ¬ r / 4096 = 0) (hg : ab_get h r = some c) :
    (r / 4096 - 1 < E.caps.length ∧ ab_off E.caps (r / 4096 - 1) + r % 4096 < ab_off E.caps (r / 4096)) ∨ (r / 4096 - 1 = E.caps.length ∧ ab_off E.caps (r / 4096 - 1) + r % 4096 + E.N0 < H.size) := by
  obtain ⟨s, h1, h2⟩ := ab_get_some hg
  obtain ⟨g1, ⟨tl, g2, g3, -⟩, g4, -, -⟩ := hR
  have hl : r / 4096 < h.length := (List.getElem?_eq_some_iff.mp h1).1
  have hi : r % 4096 < s.length := (List.getElem?_eq_some_iff.mp h2).1
  by_cases hj : r / 4096 - 1 < E.caps.length
  · obtain ⟨n, hn⟩ : ∃ n, E.caps[r / 4096 - 1]? = some n := ⟨_, List.getElem?_eq_getElem hj⟩
    obtain ⟨s', h3, h4⟩ := g1 _ _ hn
    rw [show r / 4096 - 1 + 1 = r / 4096 by omega] at h3
    cases h1.symm.trans h3
    have h5 := ab_off_succ _ _ _ hn
    rw [show r / 4096 - 1 + 1 = r / 4096 by omega] at h5
    left; exact ⟨hj, by omega⟩
  · have he : r / 4096 - 1 = E.caps.length := by omega
    have h3 : h[r / 4096]? = some tl := by rw [show r / 4096 = E.caps.length + 1 by omega]; exact g2
    cases h1.symm.trans h3
    have h5 := ab_off_all E.caps
    right
    refine ⟨he, ?_⟩
    rw [he, h5]
    omega
theorem ab_adr_new {E : AE} {r : Nat} (h0 : ¬ r / 4096 = 0) : ab_adr E r = E.N0 + ab_off E.caps (r / 4096 - 1) + r % 4096 := by unfold ab_adr; rw [if_neg h0]
theorem ab_ge {E : AE} {r : Nat} (h0 : ¬ r / 4096 = 0) : ab_A E (ab_adr E r) := by
  rw [ab_adr_new h0]; unfold ab_A; omega
theorem ab_inj {E : AE} {h : AH} {U : State} {H : Heap} (hR : ab_R E h U H) {r r' : Nat} {c c' : AC} (h0 : ¬ r / 4096 = 0) (h0' : ¬ r' / 4096 = 0) (hg : ab_get h r = some c) (hg' : ab_get h r' = some c') (he : ab_adr E r = ab_adr E r') : r = r' := by
  have w := ab_where hR h0 hg
  have w' := ab_where hR h0' hg'
  rw [ab_adr_new h0, ab_adr_new h0'] at he
  rcases Nat.lt_trichotomy (r / 4096) (r' / 4096) with hlt | heq | hgt
  · have := ab_off_le E.caps (r / 4096) (r' / 4096 - 1) (by omega)
    rcases w with ⟨w1, w2⟩ | ⟨w1, w2⟩
    · omega
    · rcases w' with ⟨w3, w4⟩ | ⟨w3, w4⟩ <;> omega
  · rw [heq] at he
    omega
  · have := ab_off_le E.caps (r' / 4096) (r / 4096 - 1) (by omega)
    rcases w' with ⟨w1, w2⟩ | ⟨w1, w2⟩
    · omega
    · rcases w with ⟨w3, w4⟩ | ⟨w3, w4⟩ <;> omega
theorem ab_get_set {h : AH} {r : Nat} {c c0 : AC} (hg : ab_get h r = some c0) (q : Nat) : ab_get (ab_set h r c) q = if q = r then some c else ab_get h q := by
  obtain ⟨s, h1, h2⟩ := ab_get_some hg
  have hl : r / 4096 < h.length := (List.getElem?_eq_some_iff.mp h1).1
  have hi : r % 4096 < s.length := (List.getElem?_eq_some_iff.mp h2).1
  unfold ab_set ab_get
  rw [h1]
  dsimp only
  by_cases hj : q / 4096 = r / 4096
  · rw [hj, List.getElem?_set_self hl, h1]
    dsimp only
    by_cases hi2 : q % 4096 = r % 4096
    · rw [hi2, List.getElem?_set_self hi, if_pos (by omega)]
    · rw [List.getElem?_set_ne (fun e => hi2 e.symm), if_neg (by intro e; subst e; exact hi2 rfl)]
  · rw [List.getElem?_set_ne (fun e => hj e.symm), if_neg (by intro e; subst e; exact hj rfl)]
theorem ab_set_seg {h : AH} {r : Nat} {c c0 : AC} (hg : ab_get h r = some c0) : (ab_set h r c).length = h.length ∧ ∀ j : Nat, (∃ s, h[j]? = some s) → ∃ s s', h[j]? = some s ∧ (ab_set h r c)[j]? = some s' ∧ s'.length = s.length := by
  obtain ⟨s, h1, h2⟩ := ab_get_some hg
  have hl : r / 4096 < h.length := (List.getElem?_eq_some_iff.mp h1).1
  unfold ab_set
  rw [h1]
  dsimp only
  refine ⟨by simp, fun j ⟨t, ht⟩ => ?_⟩
  by_cases hj : j = r / 4096
  · subst hj
    exact ⟨s, _, h1, List.getElem?_set_self hl, by simp⟩
  · exact ⟨t, t, ht, by rw [List.getElem?_set_ne (fun e => hj e.symm)]; exact ht, rfl⟩
/-- one new cell is written -/
theorem ab_R_set {E : AE} {h : AH} {U : State} {H H1 : Heap} (hR : ab_R E h U H) {r : Nat} {c0 c : AC} (h0 : ¬ r / 4096 = 0) (hg : ab_get h r = some c0) (ha : va_at E.D vwCl (ab_adr E r, ab_cell E c) H1) (hz : H1.size = H.size) (ho : ∀ q, q ≠ ab_adr E r → H1[q]? = H[q]?) : ab_R E (ab_set h r c) U H1 := by
  obtain ⟨e1, e2⟩ := ab_set_seg (c := c) hg
  have hR' := hR
  obtain ⟨g1, ⟨tl, g2, g3, g3e⟩, g4, g5, g6⟩ := hR
  refine ⟨fun j n hn => ?_, ?_, e1.trans g4, fun q d q0 hq => ?_, fun q d q0 hq => ?_⟩
  · obtain ⟨s, s1, s2⟩ := g1 j n hn
    obtain ⟨t, t', t1, t2, t3⟩ := e2 (j + 1) ⟨s, s1⟩
    cases s1.symm.trans t1
    exact ⟨t', t2, t3.trans s2⟩
  · obtain ⟨t, t', t1, t2, t3⟩ := e2 _ ⟨tl, g2⟩
    cases g2.symm.trans t1
    exact ⟨t', t2, by rw [hz, t3]; exact g3, fun z => by rw [hz, t3]; exact g3e z⟩
  · rw [ab_get_set hg] at hq
    by_cases e : q = r
    · rw [if_pos e] at hq
      cases hq
      rw [e]; exact ha
    · rw [if_neg e] at hq
      exact (g5 q d q0 hq).kept (ho _ (fun z => e (ab_inj hR' q0 h0 hq hg z)))
  · rw [ab_get_set hg] at hq
    by_cases e : q = r
    · rw [e] at q0; exact absurd q0 h0
    · rw [if_neg e] at hq
      obtain ⟨n, f, f1, f2, f3⟩ := g6 q d q0 hq
      refine ⟨n, f, f1, f2, f3.kept (ho _ (fun z => ?_))⟩
      have := ab_ge (E := E) h0
      unfold ab_A at this
      omega
/-- a cell is made, at the end -/
def ab_push (h : AH) (c : AC) : AH := h.set (h.length - 1) ((h.getD (h.length - 1) []) ++ [c])
theorem ab_R_push {E : AE} {h : AH} {U : State} {H H1 : Heap} (hR : ab_R E h U H) (hex : E.ex = true) {c : AC} (ha : va_at E.D vwCl (H.size, ab_cell E c) H1) (hz : H1.size = H.size + 1) (ho : ∀ q, q < H.size → H1[q]? = H[q]?) : ab_R E (ab_push h c) U H1 ∧ (∀ tl, h[E.caps.length + 1]? = some tl → ab_adr E (4096 * (E.caps.length + 1) + tl.length) = H.size ∨ 4096 ≤ tl.length) := by
  have hR' := hR
  obtain ⟨g1, ⟨tl, g2, -, g3e⟩, g4, g5, g6⟩ := hR
  have g3 := g3e hex
  have hl : h.length - 1 = E.caps.length + 1 := by omega
  have hd : h.getD (h.length - 1) [] = tl := by rw [List.getD_eq_getElem?_getD, hl, g2]; rfl
  have hlt : E.caps.length + 1 < h.length := by omega
  have hp : ab_push h c = h.set (E.caps.length + 1) (tl ++ [c]) := by unfold ab_push; rw [hd, hl]
  have low : ∀ (q : Nat) (d : AC), ab_get h q = some d → ¬ q / 4096 = 0 → ab_adr E q < H.size := fun q d hq q0 => (g5 q d q0 hq).lt
  refine ⟨?_, fun t ht => ?_⟩
  · rw [hp]
    refine ⟨fun j n hn => ?_, ⟨tl ++ [c], List.getElem?_set_self hlt, by rw [hz, g3]; simp; omega, fun _ => by rw [hz, g3]; simp; omega⟩, by simp [g4], fun q d q0 hq => ?_, fun q d q0 hq => ?_⟩
    · obtain ⟨s, s1, s2⟩ := g1 j n hn
      have hj : j < E.caps.length := (List.getElem?_eq_some_iff.mp hn).1
      exact ⟨s, by rw [List.getElem?_set_ne (by omega)]; exact s1, s2⟩
    · unfold ab_get at hq
      by_cases e : E.caps.length + 1 = q / 4096
      · rw [← e, List.getElem?_set_self hlt] at hq
        dsimp only at hq
        by_cases e2 : q % 4096 < tl.length
        · rw [List.getElem?_append_left e2] at hq
          have h9 : ab_get h q = some d := by unfold ab_get; rw [← e, g2]; exact hq
          exact (g5 q d q0 h9).kept (ho _ (low q d h9 q0))
        · rw [List.getElem?_append_right (by omega)] at hq
          have e3 : q % 4096 - tl.length = 0 := by
            have := (List.getElem?_eq_some_iff.mp hq).1
            simp at this
            omega
          rw [e3] at hq
          cases hq
          have e4 : ab_adr E q = H.size := by
            rw [ab_adr_new q0, ← e, g3, show E.caps.length + 1 - 1 = E.caps.length by omega, ab_off_all]
            omega
          rw [e4]; exact ha
      · rw [List.getElem?_set_ne e] at hq
        have h9 : ab_get h q = some d := by unfold ab_get; exact hq
        exact (g5 q d q0 h9).kept (ho _ (low q d h9 q0))
    · unfold ab_get at hq
      rw [List.getElem?_set_ne (by omega)] at hq
      have h9 : ab_get h q = some d := by unfold ab_get; exact hq
      obtain ⟨n, f, f1, f2, f3⟩ := g6 q d q0 h9
      refine ⟨n, f, f1, f2, f3.kept (ho _ ?_)⟩
      omega
  · cases g2.symm.trans ht
    by_cases e : 4096 ≤ tl.length
    · exact Or.inr e
    · left
      have e1 : (4096 * (E.caps.length + 1) + tl.length) / 4096 = E.caps.length + 1 := by omega
      have e2 : (4096 * (E.caps.length + 1) + tl.length) % 4096 = tl.length := by omega
      unfold ab_adr
      rw [e1, e2, if_neg (by omega), show E.caps.length + 1 - 1 = E.caps.length by omega, ab_off_all, g3]
/-- other cells may have been made -/
theorem ab_R_more {E : AE} {h : AH} {U : State} {H H1 : Heap} (hR : ab_R E h U H) (hex : E.ex = false) (hz : H.size ≤ H1.size) (ho : ∀ q, q < H.size → H1[q]? = H[q]?) : ab_R E h U H1 := by
  obtain ⟨g1, ⟨tl, g2, g3, -⟩, g4, g5, g6⟩ := hR
  refine ⟨g1, ⟨tl, g2, Nat.le_trans g3 hz, fun z => ?_⟩, g4, fun q d q0 hq => ?_, fun q d q0 hq => ?_⟩
  · rw [hex] at z; cases z
  · exact (g5 q d q0 hq).kept (ho _ (g5 q d q0 hq).lt)
  · obtain ⟨n, f, f1, f2, f3⟩ := g6 q d q0 hq
    exact ⟨n, f, f1, f2, f3.kept (ho _ (by omega))⟩
end
section
/-! the words that may be handed on -/
def ab_W : List Cond := lw_tbl.filter goodWord
theorem ab_W_good {w : Cond} (h : w ∈ ab_W) : (w.onTables && w.keeps) = true ∨ ∃ ty, w = .arrayClass ty := good_of_word (List.mem_filter.mp h).2
def ab_at (i : Nat) (w : Cond) : Bool := decide (lw_tbl[i]? = some w) && goodWord w
theorem ab_at_mem {i : Nat} {w : Cond} (h : ab_at i w = true) : w ∈ ab_W := by
  unfold ab_at at h
  rw [Bool.and_eq_true, decide_eq_true_eq] at h
  exact List.mem_filter.mpr ⟨List.mem_of_getElem? h.1, h.2⟩
def ab_ats : List Nat → List Cond → Bool
  | [], [] => true
  | i :: is, w :: ws => ab_at i w && ab_ats is ws
  | _, _ => false
theorem ab_ats_mem : ∀ {is : List Nat} {ws : List Cond}, ab_ats is ws = true → ∀ w ∈ ws, w ∈ ab_W
  | [], [], _ => fun w h => nomatch h
  | i :: is, x :: ws, h => fun w hw => by
    unfold ab_ats at h
    rw [Bool.and_eq_true] at h
    rcases List.mem_cons.mp hw with e | e
    · rw [e]; exact ab_at_mem h.1
    · exact ab_ats_mem h.2 w e
  | [], _ :: _, h => by simp [ab_ats] at h
  | _ :: _, [], h => by simp [ab_ats] at h
theorem ab_lay0 : ab_ats [97, 99, 101, 103, 105, 107, 109, 111] (u_ws RX0 TX0 8) = true := by decide +kernel
theorem ab_ini0 : ab_ats [51, 30] [.instantiable RX0 8, .initialized RX0] = true := by decide +kernel
theorem ab_lay1 : ab_ats [131, 133, 135, 137, 139, 141, 143, 145, 147] (u_ws RX1 TX1 9) = true := by decide +kernel
theorem ab_ini1 : ab_ats [115, 33] [.instantiable RX1 9, .initialized RX1] = true := by decide +kernel
theorem ab_lay2 : ab_ats [162, 164, 166, 168] (u_ws RX2 TX2 4) = true := by decide +kernel
theorem ab_ini2 : ab_ats [151, 34] [.instantiable RX2 4, .initialized RX2] = true := by decide +kernel
theorem ab_lay3 : ab_ats [75, 77, 79, 81] (u_ws RX3 TX3 4) = true := by decide +kernel
theorem ab_ini3 : ab_ats [57, 31] [.instantiable RX3 4, .initialized RX3] = true := by decide +kernel
theorem ab_lay4 : ab_ats [174, 176, 178] (u_ws RX4 TX4 3) = true := by decide +kernel
theorem ab_ini4 : ab_ats [43, 29] [.instantiable RX4 3, .initialized RX4] = true := by decide +kernel
/-- what the tables say of the class with this number -/
def ab_ty (ci : Nat) : Nat → FieldType := match ci with
  | 0 => tyX0
  | 1 => tyX1
  | 2 => tyX2
  | 3 => tyX3
  | _ => tyX4
theorem ab_cls : ∀ (ci : Nat) (C : String) (T : u_T) (N : Nat), vwCl[ci]? = some (C, T, N) → (∀ w ∈ u_ws C T N, w ∈ ab_W) ∧ Cond.instantiable C N ∈ ab_W ∧ Cond.initialized C ∈ ab_W ∧ (∀ k, k < N → parseFieldDescriptor (T k).2.2.1 = some (ab_ty ci k)) ∧ (∀ a, a < N → ∀ b, b < N → a ≠ b → (T a).2.1 ≠ (T b).2.1) ∧ ∀ k, k < N → (T k).1 = C := by
  intro ci C T N h
  match ci, h with
  | 0, h => cases h; exact ⟨ab_ats_mem ab_lay0, ab_ats_mem ab_ini0 _ (by simp), ab_ats_mem ab_ini0 _ (by simp), tyX0_ok, nmX0, by decide +kernel⟩
  | 1, h => cases h; exact ⟨ab_ats_mem ab_lay1, ab_ats_mem ab_ini1 _ (by simp), ab_ats_mem ab_ini1 _ (by simp), tyX1_ok, nmX1, by decide +kernel⟩
  | 2, h => cases h; exact ⟨ab_ats_mem ab_lay2, ab_ats_mem ab_ini2 _ (by simp), ab_ats_mem ab_ini2 _ (by simp), tyX2_ok, nmX2, by decide +kernel⟩
  | 3, h => cases h; exact ⟨ab_ats_mem ab_lay3, ab_ats_mem ab_ini3 _ (by simp), ab_ats_mem ab_ini3 _ (by simp), tyX3_ok, nmX3, by decide +kernel⟩
  | 4, h => cases h; exact ⟨ab_ats_mem ab_lay4, ab_ats_mem ab_ini4 _ (by simp), ab_ats_mem ab_ini4 _ (by simp), tyX4_ok, nmX4, by decide +kernel⟩
  | _ + 5, h => simp [vwCl] at h
/-- static fields that nobody writes: class, name, descriptor, the old array's reference -/
def ab_stF : List (String × String × String × Nat) := [("LeafCradles", "LEAST_SETTING", "[I", 1), ("LeafCradles", "GREATEST_SETTING", "[I", 2)]
def ab_strs : List (String × Nat × String) := [("LeafCradles", 252, "an argument is out of range"), ("LeafCradles", 256, "there is none with this number"), ("LeafCradles", 40, "there are 12 volumes"), ("LeafCradles", 52, "there are 4 cradles"), ("LeafCradles", 58, "there are 3 carriers"), ("LeafCradles", 91, "there is a reason against it"), ("LeafCradles", 100, "it cannot be brought back by this carrier now"), ("LeafCradles", 105, "the number of the minute would be above 20000"), ("LeafCradles", 116, "the leaf is not good"), ("LeafCradles", 124, "the buffer has 60 characters"), ("LeafCradles", 141, "the buffer is not a complete list of bars"), ("LeafCradles", 147, "the volume does not have all of these leaves")]
def ab_nc : List (String × String) := [("java/lang/IllegalArgumentException", "java/lang/IllegalStateException"), ("java/lang/IllegalArgumentException", "java/lang/IndexOutOfBoundsException"), ("java/lang/IllegalStateException", "java/lang/IllegalArgumentException"), ("java/lang/IllegalStateException", "java/lang/IndexOutOfBoundsException"), ("java/lang/IndexOutOfBoundsException", "java/lang/IllegalArgumentException"), ("java/lang/IndexOutOfBoundsException", "java/lang/IllegalStateException")]
def ab_exs : List String := ["java/lang/IllegalArgumentException", "java/lang/IllegalStateException", "java/lang/IndexOutOfBoundsException"]
def ab_decls : List MethodName := [⟨"java/lang/RuntimeException", "<init>", "()V"⟩, ⟨"java/lang/RuntimeException", "<init>", "(Ljava/lang/String;)V"⟩, ⟨"java/lang/Exception", "<init>", "()V"⟩, ⟨"java/lang/Exception", "<init>", "(Ljava/lang/String;)V"⟩, ⟨"java/lang/Throwable", "<init>", "()V"⟩, ⟨"java/lang/Throwable", "<init>", "(Ljava/lang/String;)V"⟩]
def ab_nest : List (Nat × MethodName) := [(18, ⟨"LeafCradles$BarText", "<init>", "()V"⟩), (25, ⟨"LeafCradles$LoadPlan", "<init>", "()V"⟩)]
/-- the words of the JDK's own methods -/
def ab_jw : Nat → Bool := fun a => match a with
  | 1 => ab_ats [69, 32, 70] [.static Lib.Math.max.name, .initialized "java/lang/Math", .code Lib.Math.max.name Lib.Math.max.code 2 (some .int)]
  | 2 => ab_ats [66, 32, 67] [.static Lib.Math.min.name, .initialized "java/lang/Math", .code Lib.Math.min.name Lib.Math.min.code 2 (some .int)]
  | 3 => ab_ats [503, 32, 504] [.static Lib.Math.abs.name, .initialized "java/lang/Math", .code Lib.Math.abs.name Lib.Math.abs.code 1 (some .int)]
  | 4 => ab_ats [457, 40, 458] [.static arraycopyName, .initialized "java/lang/System", .native arraycopyName]
  | 5 => ab_ats [48, 49] [.instanceMethod Lib.objectInit, .code Lib.objectInit ⟨#[0xb1]⟩ 1 none]
  | _ => false
end
section
/-! a method: its name, bytes, locals, answer's type, table of handlers -/
abbrev AM : Type := MethodName × ByteArray × Nat × Option FieldType × List (Nat × Nat × Nat × Nat)
abbrev AM.y (M : AM) : MethodName := M.1
abbrev AM.bytes (M : AM) : ByteArray := M.2.1
abbrev AM.maxL (M : AM) : Nat := M.2.2.1
abbrev AM.ret (M : AM) : Option FieldType := M.2.2.2.1
abbrev AM.hh (M : AM) : List (Nat × Nat × Nat × Nat) := M.2.2.2.2
abbrev AM.own (M : AM) : String := M.1.cls
/-- an instruction: pc, instruction, length, three numbers, a value -/
abbrev AI : Type := Nat × Instr × Nat × Nat × Nat × Nat × Value
abbrev AO : Type := Option (List Prop × (Nat × AL × List Value) × AH)
def ab_isT : Nat → Value → Bool
  | 0, .int _ => true
  | 1, .long _ => true
  | 2, .double _ => true
  | 3, .ref _ => true
  | _, _ => false
def ab_clr (L : AL) : Nat → AL
  | 0 => L
  | a + 1 => match L[a]? with
    | some (some (.long _)) => L.set a none
    | some (some (.double _)) => L.set a none
    | _ => L
def ab_put1 (L : AL) (a : Nat) (v : Value) : AL := (ab_clr L a).set a (some v)
def ab_put2 (L : AL) (a : Nat) (v : Value) : AL := ((ab_clr L a).set a (some v)).set (a + 1) none
def ab_load (t pc n a : Nat) (L : AL) (st : List Value) (h : AH) : AO := match L[a]? with
  | some (some v) => match ab_isT t v with
    | true => some ([], (pc + n, L, v :: st), h)
    | false => none
  | _ => none
def ab_store1 (t pc n a : Nat) (L : AL) (st : List Value) (h : AH) : AO := match st with
  | v :: r => match ab_isT t v with
    | true => some ([], (pc + n, ab_put1 L a v, r), h)
    | false => none
  | [] => none
def ab_store2 (t pc n a : Nat) (L : AL) (st : List Value) (h : AH) : AO := match st with
  | v :: r => match ab_isT t v with
    | true => some ([], (pc + n, ab_put2 L a v, r), h)
    | false => none
  | [] => none
def ab_bin (f : Int32 → Int32 → Int32) (pc n : Nat) (L : AL) (st : List Value) (h : AH) : AO := match st with
  | .int y :: .int x :: r => some ([], (pc + n, L, .int (f x y) :: r), h)
  | _ => none
def ab_binZ (f : Int32 → Int32 → Int32) (pc n : Nat) (L : AL) (st : List Value) (h : AH) : AO := match st with
  | .int y :: .int x :: r => some ([¬ y = 0], (pc + n, L, .int (f x y) :: r), h)
  | _ => none
def ab_un (f : Int32 → Value) (pc n : Nat) (L : AL) (st : List Value) (h : AH) : AO := match st with
  | .int x :: r => some ([], (pc + n, L, f x :: r), h)
  | _ => none
def ab_binL (f : Int64 → Int64 → Value) (pc n : Nat) (L : AL) (st : List Value) (h : AH) : AO := match st with
  | .long y :: .long x :: r => some ([], (pc + n, L, f x y :: r), h)
  | _ => none
def ab_binD (f : UInt64 → UInt64 → UInt64) (pc n : Nat) (L : AL) (st : List Value) (h : AH) : AO := match st with
  | .double y :: .double x :: r => some ([vf_n64 (f x y)], (pc + n, L, .double (f x y) :: r), h)
  | _ => none
def ab_okv : FieldType → Value → Bool
  | .int, .int _ => true
  | .long, .long _ => true
  | .object _, .ref _ => true
  | .array _, .ref _ => true
  | _, _ => false
def ab_getf (pc n a b : Nat) (L : AL) (st : List Value) (h : AH) : AO := match st with
  | .ref q :: r => match ab_get h q with
    | some (.inr (ci, fs)) => match Nat.beq ci a, fs[b]? with
      | true, some w => some ([], (pc + n, L, w :: r), h)
      | _, _ => none
    | _ => none
  | _ => none
def ab_putf (pc n a b : Nat) (L : AL) (st : List Value) (h : AH) : AO := match st with
  | w :: .ref q :: r => match ab_get h q with
    | some (.inr (ci, fs)) => match Nat.beq ci a, Nat.blt b fs.length, ab_okv (ab_ty a b) w with
      | true, true, true => some ([], (pc + n, L, r), ab_set h q (.inr (ci, fs.set b w)))
      | _, _, _ => none
    | _ => none
  | _ => none
def ab_ald (pc n : Nat) (L : AL) (st : List Value) (h : AH) : AO := match st with
  | .int i :: .ref q :: r => match ab_get h q with
    | some (.inl (.inl (m, f))) => some ([vp_in i m], (pc + n, L, .int (f i.toNatClampNeg) :: r), h)
    | _ => none
  | _ => none
def ab_lald (pc n : Nat) (L : AL) (st : List Value) (h : AH) : AO := match st with
  | .int i :: .ref q :: r => match ab_get h q with
    | some (.inl (.inr (m, f))) => some ([vp_in i m], (pc + n, L, .long (f i.toNatClampNeg) :: r), h)
    | _ => none
  | _ => none
def ab_ast (pc n : Nat) (L : AL) (st : List Value) (h : AH) : AO := match st with
  | .int x :: .int i :: .ref q :: r => match ab_get h q, Nat.beq (q / 4096) 0 with
    | some (.inl (.inl (m, f))), false => some ([vp_in i m], (pc + n, L, r), ab_set h q (.inl (.inl (m, upd f i.toNatClampNeg x))))
    | _, _ => none
  | _ => none
def ab_last (pc n : Nat) (L : AL) (st : List Value) (h : AH) : AO := match st with
  | .long x :: .int i :: .ref q :: r => match ab_get h q, Nat.beq (q / 4096) 0 with
    | some (.inl (.inr (m, f))), false => some ([vp_in i m], (pc + n, L, r), ab_set h q (.inl (.inr (m, vp_updL f i.toNatClampNeg x))))
    | _, _ => none
  | _ => none
def ab_alen (pc n : Nat) (L : AL) (st : List Value) (h : AH) : AO := match st with
  | .ref q :: r => match ab_get h q with
    | some (.inl (.inl (m, _))) => some ([], (pc + n, L, .int (Int32.ofNat m) :: r), h)
    | _ => none
  | _ => none
def ab_cat (st : List Value) : Bool := Nat.ble ((st.map fun v => v.category).sum) 8
/-- Math.max, min, abs; arraycopy; the raw bits of a double -/
def ab_jdk (pc n a : Nat) (L : AL) (st : List Value) (h : AH) : AO := match a with
  | 1 => match st with
    | .int y :: .int x :: r => match ab_cat r with
      | true => some ([], (pc + n, L, .int (if x < y then y else x) :: r), h)
      | false => none
    | _ => none
  | 2 => match st with
    | .int y :: .int x :: r => match ab_cat r with
      | true => some ([], (pc + n, L, .int (if y < x then y else x) :: r), h)
      | false => none
    | _ => none
  | 3 => match st with
    | .int x :: r => match ab_cat r with
      | true => some ([], (pc + n, L, .int (if 0 ≤ x then x else 0 - x) :: r), h)
      | false => none
    | _ => none
  | 4 => match st with
    | .int k :: .int dp :: .ref d :: .int sp :: .ref q :: r => match ab_cat r, ab_get h q, ab_get h d, Nat.beq (q / 4096) 0, Nat.beq (d / 4096) 0 with
      | true, some (.inl (.inl (m0, f))), some (.inl (.inl (m1, g))), false, false => some ([¬ sp < 0, ¬ dp < 0, ¬ k < 0, sp.toNatClampNeg + k.toNatClampNeg ≤ m0, dp.toNatClampNeg + k.toNatClampNeg ≤ m1], (pc + n, L, r), ab_set h d (.inl (.inl (m1, va_cpy f g sp.toNatClampNeg dp.toNatClampNeg k.toNatClampNeg))))
      | _, _, _, _, _ => none
    | _ => none
  | _ => none
def ab_step (x : AI) (L : AL) (st : List Value) (h : AH) : AO := match x with
  | (pc, i, n, a, b, _, v) => match i with
    | .iconst _ | .bipush _ | .sipush _ | .lconst _ | .dconst _ | .ldc _ | .ldc2_w _ => some ([], (pc + n, L, v :: st), h)
    | .iload _ | .iload_n _ => ab_load 0 pc n a L st h
    | .lload _ | .lload_n _ => ab_load 1 pc n a L st h
    | .dload _ | .dload_n _ => ab_load 2 pc n a L st h
    | .aload _ | .aload_n _ => ab_load 3 pc n a L st h
    | .istore _ | .istore_n _ => ab_store1 0 pc n a L st h
    | .astore _ | .astore_n _ => ab_store1 3 pc n a L st h
    | .lstore _ | .lstore_n _ => ab_store2 1 pc n a L st h
    | .dstore _ | .dstore_n _ => ab_store2 2 pc n a L st h
    | .iinc _ _ => match L[a]?, v with
      | some (some (.int x)), .int k => some ([], (pc + n, ab_put1 L a (.int (x + k)), st), h)
      | _, _ => none
    | .iadd => ab_bin (fun x y => x + y) pc n L st h
    | .isub => ab_bin (fun x y => x - y) pc n L st h
    | .imul => ab_bin (fun x y => x * y) pc n L st h
    | .iand => ab_bin (fun x y => x &&& y) pc n L st h
    | .ior => ab_bin (fun x y => x ||| y) pc n L st h
    | .ishl => ab_bin (fun x y => x <<< (y &&& 31)) pc n L st h
    | .ishr => ab_bin (fun x y => x >>> (y &&& 31)) pc n L st h
    | .iushr => ab_bin (fun x y => (x.toUInt32 >>> (y.toUInt32 &&& Int32.toUInt32 31)).toInt32) pc n L st h
    | .idiv => ab_binZ (fun x y => x / y) pc n L st h
    | .irem => ab_binZ (fun x y => x - x / y * y) pc n L st h
    | .ineg => ab_un (fun x => .int (-x)) pc n L st h
    | .i2l => ab_un (fun x => .long x.toInt64) pc n L st h
    | .i2d => ab_un (fun x => .double (FP.i2d x)) pc n L st h
    | .ladd => ab_binL (fun x y => .long (x + y)) pc n L st h
    | .lsub => ab_binL (fun x y => .long (x - y)) pc n L st h
    | .lmul => ab_binL (fun x y => .long (x * y)) pc n L st h
    | .lor => ab_binL (fun x y => .long (x ||| y)) pc n L st h
    | .lcmp => ab_binL (fun x y => .int (lg_cmp x y)) pc n L st h
    | .lshl => match st with
      | .int y :: .long x :: r => some ([], (pc + n, L, .long (x <<< (y.toInt64 &&& 63)) :: r), h)
      | _ => none
    | .dmul => ab_binD FP.dmul pc n L st h
    | .dsub => ab_binD FP.dsub pc n L st h
    | .ddiv => ab_binD FP.ddiv pc n L st h
    | .dcmp op => match st with
      | .double y :: .double x :: r => some ([], (pc + n, L, .int (Op.cmpValue (FP.dcmp x y) op) :: r), h)
      | _ => none
    | .d2l => match st with
      | .double x :: r => some ([], (pc + n, L, .long (FP.d2l x) :: r), h)
      | _ => none
    | .dup => match st with
      | v :: r => match Nat.beq v.category 1 with
        | true => some ([], (pc + n, L, v :: v :: r), h)
        | false => none
      | _ => none
    | .dup2 => match st with
      | v :: w :: r => match Nat.beq v.category 1, Nat.beq w.category 1 with
        | true, true => some ([], (pc + n, L, v :: w :: v :: w :: r), h)
        | _, _ => none
      | _ => none
    | .pop => match st with
      | v :: r => match Nat.beq v.category 1 with
        | true => some ([], (pc + n, L, r), h)
        | false => none
      | _ => none
    | .goto _ => some ([], (a, L, st), h)
    | .getfield _ => ab_getf pc n a b L st h
    | .putfield _ => ab_putf pc n a b L st h
    | .getstatic _ => some ([], (pc + n, L, .ref a :: st), h)
    | .iaload => ab_ald pc n L st h
    | .iastore => ab_ast pc n L st h
    | .arraylength => ab_alen pc n L st h
    | .invokestatic _ => ab_jdk pc n a L st h
    | .invokespecial _ => match st with
      | .ref _ :: r => match ab_cat r with
        | true => some ([], (pc + n, L, r), h)
        | false => none
      | _ => none
    | _ => none
def ab_run : List AI → Nat → AL → List Value → AH → AO
  | [], pc, L, st, h => some ([], (pc, L, st), h)
  | x :: xs, pc, L, st, h => match Nat.beq x.1 pc with
    | true => match ab_step x L st h with
      | some (P, (pc', L', st'), h') => match ab_run xs pc' L' st' h' with
        | some (Q, r) => some (P ++ Q, r)
        | none => none
      | none => none
    | false => none
/-! what is to be checked of an instruction, once, by program -/
def ab_link (own : String) (idx a b c : Nat) : Bool := match vwCl[a]? with
  | some (C, T, N) => Nat.blt b N && ab_at c (.fieldLink own idx C (T b).2.1 (T b).2.2.1)
  | none => false
def ab_fin (own nm : String) (a b : Nat) : Bool := match vwCl[a]? with
  | some (C, T, _) => if (T b).2.2.2 = true then decide (nm = "<init>") && decide (C = own) else true
  | none => false
def ab_okI (M : AM) (x : AI) : Bool := match x with
  | (pc, i, n, a, b, c, v) => match i with
    | .iconst k => Nat.beq n 1 && decide (v = .int (Int32.ofInt k))
    | .bipush k => Nat.beq n 2 && decide (v = .int (Int8.ofInt k).toInt32)
    | .sipush k => Nat.beq n 3 && decide (v = .int (Int16.ofInt k).toInt32)
    | .lconst k => Nat.beq n 1 && decide (v = .long (Int64.ofNat (k : Nat)))
    | .dconst k => Nat.beq n 1 && (match k with
      | 0 => decide (v = .double FP.dconst0)
      | 1 => decide (v = .double FP.dconst1))
    | .ldc idx => Nat.beq n 2 && (match v with
      | .int z => ab_at c (.constant M.own idx z)
      | _ => false)
    | .ldc2_w idx => Nat.beq n 3 && (match v with
      | .long z => ab_at c (.constantLong M.own idx z)
      | .double z => ab_at c (.constantDouble M.own idx z)
      | _ => false)
    | .iload k | .lload k | .dload k | .aload k => Nat.beq n 2 && Nat.beq k a
    | .iload_n k | .lload_n k | .dload_n k | .aload_n k => Nat.beq n 1 && Nat.beq k a
    | .istore k | .astore k => Nat.beq n 2 && Nat.beq k a && Nat.blt a M.maxL
    | .istore_n k | .astore_n k => Nat.beq n 1 && Nat.beq k a && Nat.blt a M.maxL
    | .lstore k | .dstore k => Nat.beq n 2 && Nat.beq k a && Nat.blt (a + 1) M.maxL
    | .lstore_n k | .dstore_n k => Nat.beq n 1 && Nat.beq k a && Nat.blt (a + 1) M.maxL
    | .iinc k z => Nat.beq n 3 && Nat.beq k a && Nat.blt a M.maxL && decide (v = .int (Int32.ofInt z))
    | .goto off => Nat.beq n 3 && decide ((pc : Int) + off = (a : Int))
    | .getfield idx => Nat.beq n 3 && ab_link M.own idx a b c
    | .putfield idx => Nat.beq n 3 && ab_link M.own idx a b c && ab_fin M.own M.y.name a b
    | .getstatic idx => Nat.beq n 3 && (match ab_stF[b]? with
      | some (C, f, d, r) => decide (C = M.own) && Nat.beq r a && ab_at c (.fieldLink M.own idx C f d)
      | none => false)
    | .invokestatic idx => Nat.beq n 3 && ab_jw a && (match a with
      | 1 => ab_at c (.methodLink M.own idx Lib.Math.max.name)
      | 2 => ab_at c (.methodLink M.own idx Lib.Math.min.name)
      | 3 => ab_at c (.methodLink M.own idx Lib.Math.abs.name)
      | 4 => ab_at c (.methodLink M.own idx arraycopyName)
      | _ => false)
    | .invokespecial idx => Nat.beq n 3 && Nat.beq a 5 && ab_jw 5 && ab_at c (.methodLink M.own idx Lib.objectInit)
    | _ => Nat.beq n 1
def ab_ok (M : AM) (x : AI) : Bool := decide (decode M.bytes x.1 = .ok (x.2.1, x.2.2.1)) && ab_okI M x
def ab_oks (M : AM) (xs : List AI) : Bool := xs.all (ab_ok M)
def ab_all : List Prop → Prop
  | [] => True
  | [p] => p
  | p :: q :: r => p ∧ ab_all (q :: r)
end
section
def ab_Cs (C : String) (U : State) : Prop := ∃ c : ClassId, U.vm.findClass C = some c ∧ U.vm.assignable c c = true
theorem ab_Cs.moved {C : String} {u U : State} (hvm : u.vm.Alike U.vm) (h : ab_Cs C u) : ab_Cs C U := by
  obtain ⟨c, h1, h2⟩ := h
  exact ⟨c, by rw [hvm.findClass]; exact h1, by rw [hvm.assignable]; exact h2⟩
theorem ab_Cs.word {C : String} {args : Array Value} {s : State} (h : ab_Cs C s) : (Cond.castable C C).before args s = true := by
  obtain ⟨c, h1, h2⟩ := h
  simp [Cond.before, Cond.holds, Cond.value, h1, h2]
theorem ab_Cs.of {C : String} {args : Array Value} {s : State} (h : (Cond.castable C C).before args s = true) : ab_Cs C s := by
  obtain ⟨c3, c4, hc3, hc4, hasg⟩ := Cond.castable_spec h
  cases hc3.symm.trans hc4
  exact ⟨c3, hc3, hasg⟩
/-- what holds of the state's statics, strings, classes' kinship -/
def ab_SF (E : AE) (U : State) : Prop :=
  (∀ q ∈ ab_stF, va_Z q.1 q.2.1 q.2.2.1 (.ref (ab_adr E q.2.2.2)) (ab_A E) U U.heap) ∧ vx_Zq Bundle.tN "UNASSIGNED_STACK" Bundle.steD (ab_A E) U U.heap ∧ vx_Zq Bundle.tN "SUPPRESSED_SENTINEL" Bundle.listD (ab_A E) U U.heap ∧
  (∀ q ∈ ab_strs, ∃ sa, vk_R q.1 q.2.1 q.2.2 sa U) ∧ (∀ q ∈ ab_nc, va_Nc q.1 q.2 U) ∧ (∀ q ∈ ab_nest, va_Nw (.methodLinkNest "LeafCradles" q.1 q.2 "LeafCradles") U) ∧ E.l.stackTraces = false ∧ E.N0 ≤ U.heap.size ∧ (∀ q ∈ ab_exs, ab_Cs q U) ∧ (∀ q ∈ ab_decls, va_Nw (.declares q) U)
theorem ab_SF.moved {E : AE} {s U : State} {H : Heap} {locs : List Loc} (h : ab_SF E s) (hW : s.WarmedH U.vm) (hS : va_S (ab_A E) s.heap H locs) (hU : U.heap = H) : ab_SF E U := by
  obtain ⟨h1, h2, h3, h4, h5, h6, h7, h8, h9, h10⟩ := h
  refine ⟨fun q hq => ?_, ?_, ?_, fun q hq => ?_, fun q hq => ?_, fun q hq => ?_, h7, ?_, fun q hq => (h9 q hq).moved hW.alike, fun q hq => va_Nw.warmD hW (h10 q hq)⟩
  · rw [hU]; exact va_Z.moved hW.alike ((h1 q hq).kept hS.2.1)
  · rw [hU]; exact vx_Zq.moved hW.alike (h2.kept hS.2.1)
  · rw [hU]; exact vx_Zq.moved hW.alike (h3.kept hS.2.1)
  · obtain ⟨sa, h⟩ := h4 q hq
    exact ⟨sa, vk_R.warm hW h⟩
  · exact va_Nc.moved hW.alike (h5 q hq)
  · exact va_Nw.warmM hW (h6 q hq)
  · rw [hU]; exact Nat.le_trans h8 hS.1
def ab_Ctx (E : AE) (M : AM) (d : Nat) (p : Program) (R : Room) (s : State) (m : MethodId) (args : Array Value) (meth : Method) (c : Code) : Prop :=
  p.tables.exec = Jvm.exec ∧ c.code = M.bytes ∧ c.maxLocals = M.maxL ∧ meth.sig.returnType = M.ret ∧ s.vm.findClass M.own = some m.cls ∧ (∀ w ∈ ab_W, w.before args s = true) ∧ meth.locks = false ∧ meth.name = M.y.name ∧
  c.exceptionTable.toList = tableOf M.hh ∧ va_K E.D vwCl (ab_tys E) s ∧ ab_SF E s ∧ d + 8 ≤ R.frames ∧ 40 * d + 200 ≤ R.locals ∧ s.vm.findClass "[I" = some E.cI ∧ s.vm.findClass "[I" = some E.cI
def ab_lvs (E : AE) (L : AL) : List (Nat × Value) := L.zipIdx.filterMap (fun q => q.1.map (fun v => (q.2, ab_v E v)))
theorem ab_lvs_mem {E : AE} {L : AL} {q : Nat × Value} : q ∈ ab_lvs E L ↔ ∃ v, L[q.1]? = some (some v) ∧ q.2 = ab_v E v := by
  unfold ab_lvs
  rw [List.mem_filterMap]
  constructor
  · rintro ⟨⟨o, i⟩, h1, h2⟩
    rw [List.mem_zipIdx_iff_getElem?] at h1
    cases o with
    | none => simp at h2
    | some v => simp at h2; subst h2; exact ⟨v, h1, rfl⟩
  · rintro ⟨v, h1, h2⟩
    refine ⟨(some v, q.1), by rw [List.mem_zipIdx_iff_getElem?]; exact h1, ?_⟩
    simp only [Option.map_some]
    rw [← h2]
theorem ab_has_of {ls : Array Slot} {n : Nat} {l l' : List (Nat × Value)} (h : lv_has ls n l) (hs : ∀ q ∈ l', q ∈ l) : lv_has ls n l' := ⟨h.1, h.2.1, fun q hq => h.2.2 q (hs q hq)⟩
theorem ab_has_at {E : AE} {ls : Array Slot} {n : Nat} {L : AL} (h : lv_has ls n (ab_lvs E L)) {a : Nat} {v : Value} (hv : L[a]? = some (some v)) : ls[a]? = some (.val (ab_v E v)) := h.2.2 (a, ab_v E v) (ab_lvs_mem.mpr ⟨v, hv, rfl⟩)
theorem ab_cat_v (E : AE) (v : Value) : (ab_v E v).category = v.category := by cases v <;> rfl
theorem ab_clr_get (L : AL) (a j : Nat) (v : Value) (h : (ab_clr L a)[j]? = some (some v)) : L[j]? = some (some v) ∧ ¬ (j + 1 = a ∧ v.category = 2) := by
  cases a with
  | zero => exact ⟨h, by omega⟩
  | succ a =>
    simp only [ab_clr] at h
    split at h
    · by_cases e : j = a
      · subst e
        rw [List.getElem?_set] at h
        split at h
        · split at h <;> simp at h
        · exact absurd rfl (by assumption)
      · rw [List.getElem?_set_ne (fun z => e z.symm)] at h
        exact ⟨h, by omega⟩
    · by_cases e : j = a
      · subst e
        rw [List.getElem?_set] at h
        split at h
        · split at h <;> simp at h
        · exact absurd rfl (by assumption)
      · rw [List.getElem?_set_ne (fun z => e z.symm)] at h
        exact ⟨h, by omega⟩
    · rename_i h1 h2
      refine ⟨h, ?_⟩
      rintro ⟨e, hc⟩
      have e' : j = a := by omega
      subst e'
      cases v with
      | long z => exact h1 z h
      | double z => exact h2 z h
      | _ => simp [Value.category] at hc
theorem ab_put1_has {E : AE} {ls : Array Slot} {n : Nat} {L : AL} {a : Nat} {v : Value} (h : lv_has ls n ((a, ab_v E v) :: (ab_lvs E L).filter (fun q => !(q.1 == a) && !(q.1 + 1 == a && q.2.category == 2)))) : lv_has ls n (ab_lvs E (ab_put1 L a v)) := by
  refine ab_has_of h fun q hq => ?_
  obtain ⟨w, h1, h2⟩ := ab_lvs_mem.mp hq
  unfold ab_put1 at h1
  by_cases e : q.1 = a
  · rw [e, List.getElem?_set] at h1
    split at h1
    · split at h1
      · cases h1
        rw [show q = (q.1, q.2) from rfl, e, h2]
        exact List.mem_cons_self
      · cases h1
    · exact absurd rfl (by assumption)
  · rw [List.getElem?_set_ne (fun z => e z.symm)] at h1
    obtain ⟨g1, g2⟩ := ab_clr_get L a q.1 w h1
    refine List.mem_cons_of_mem _ (List.mem_filter.mpr ⟨ab_lvs_mem.mpr ⟨w, g1, h2⟩, ?_⟩)
    rw [h2, ab_cat_v]
    simp [e]
    omega
theorem ab_put2_has {E : AE} {ls : Array Slot} {n : Nat} {L : AL} {a : Nat} {v : Value} (h : lv_has ls n ((a, ab_v E v) :: (ab_lvs E L).filter (fun q => !(q.1 == a) && (!(q.1 == a + 1) && !(q.1 + 1 == a && q.2.category == 2))))) : lv_has ls n (ab_lvs E (ab_put2 L a v)) := by
  refine ab_has_of h fun q hq => ?_
  obtain ⟨w, h1, h2⟩ := ab_lvs_mem.mp hq
  unfold ab_put2 at h1
  by_cases e0 : q.1 = a + 1
  · rw [e0, List.getElem?_set] at h1
    split at h1
    · split at h1 <;> cases h1
    · exact absurd rfl (by assumption)
  · rw [List.getElem?_set_ne (fun z => e0 z.symm)] at h1
    by_cases e : q.1 = a
    · rw [e, List.getElem?_set] at h1
      split at h1
      · split at h1
        · cases h1
          rw [show q = (q.1, q.2) from rfl, e, h2]
          exact List.mem_cons_self
        · cases h1
      · exact absurd rfl (by assumption)
    · rw [List.getElem?_set_ne (fun z => e z.symm)] at h1
      obtain ⟨g1, g2⟩ := ab_clr_get L a q.1 w h1
      refine List.mem_cons_of_mem _ (List.mem_filter.mpr ⟨ab_lvs_mem.mpr ⟨w, g1, h2⟩, ?_⟩)
      rw [h2, ab_cat_v]
      simp [e, e0]
      omega
/-- how a method ends: with an answer, or with an exception of a class -/
abbrev AR0 : Type := Option Value ⊕ String
def ab_Qc (E : AE) (o : AR0) (h' : AH) : Array Value → State → Outcome → State → Prop := fun _ st oc t => ∃ r, o = .inl r ∧ oc = .returned (r.map (ab_v E)) ∧ ab_R E h' t t.heap ∧ va_F (ab_A E) st t
def ab_Xc (E : AE) (o : AR0) (h' : AH) : String → State → State → Prop := fun En st t => o = .inr En ∧ ab_R E h' t t.heap ∧ va_F (ab_A E) st t
/-- from here (pc, locals, stack, heap) the method M comes to its end o, h' -/
def AR (E : AE) (M : AM) (d pc : Nat) (L : AL) (st : List Value) (h : AH) (o : AR0) (h' : AH) (mc ms : Nat) : Prop :=
  ∀ (p : Program) (e : Env) (R : Room) (s : State) (m : MethodId) (args : Array Value) (below : List Frame) (meth : Method) (c : Code) (H : Heap) (locs : List Loc) (cells slots : Nat) (ls : Array Slot) (mcT msT : Nat),
    ab_Ctx E M d p R s m args meth c → ab_R E h s H → va_S (ab_A E) s.heap H locs → lv_has ls M.maxL (ab_lvs E L) → cells + mc ≤ mcT → slots + ms ≤ msT → mcT ≤ R.cells → msT ≤ R.slots →
    W p E.l e R s m args below meth c H locs cells slots (vx_MQ below (ab_Qc E o h') (ab_Xc E o h') args s mcT msT (ab_A E)) (F0 m pc ls (st.map (ab_v E)))
theorem ab_R.moved {E : AE} {h : AH} {u U : State} {H : Heap} (hvm : u.vm.Alike U.vm) (hR : ab_R E h u H) : ab_R E h U H := by
  obtain ⟨g1, g2, g4, g5, g6⟩ := hR
  refine ⟨g1, g2, g4, g5, fun q d q0 hq => ?_⟩
  obtain ⟨n, f, f1, f2, f3⟩ := g6 q d q0 hq
  exact ⟨n, f, f1, f2, ab_X.moved hvm f3⟩
theorem ab_all_cons {p : Prop} {ps : List Prop} (h : ab_all (p :: ps)) : p ∧ ab_all ps := by
  cases ps with
  | nil => exact ⟨h, trivial⟩
  | cons q r => exact h
theorem ab_all_app : ∀ {ps qs : List Prop}, ab_all (ps ++ qs) → ab_all ps ∧ ab_all qs
  | [], qs, h => ⟨trivial, h⟩
  | p :: ps, qs, h => by
    obtain ⟨h1, h2⟩ := ab_all_cons (ps := ps ++ qs) h
    obtain ⟨h3, h4⟩ := ab_all_app h2
    refine ⟨?_, h4⟩
    cases ps with
    | nil => exact h1
    | cons q r => exact ⟨h1, h3⟩
end
section
section AM
variable {p : Program} {l : Launch} {e : Env} {R : Room} {s : State} {m : MethodId} {args : Array Value} {below : List Frame} {meth : Method} {c : Code} {H : Heap} {locs : List Loc} {cells slots : Nat} {Q : State → Prop}
variable {cc : ByteArray} {pc : Nat} {ls : Array Slot} {rest : List Value} {D : va_G} {cl : List vw_C} {A : Nat → Prop} {a : Nat} {tys : List (ClassId × FieldType)} {H0 : Heap}
theorem ab_P1 {q : Nat × va_E} (h : va_at D cl q H) : va_P D cl [q] H := by
  intro k x hx
  cases k with
  | zero => cases hx; exact h
  | succ k => simp at hx
theorem am_put (hexec : p.tables.exec = Jvm.exec) (hb : c.code = cc) {own C : String} {T : u_T} {N ci index : Nat} {Ts : List Cond} (hts : ∀ w ∈ Ts, w.before args s = true) (hin : ∀ w ∈ u_ws C T N, w ∈ Ts) (ty0 : Nat → FieldType) (hty : ∀ k, k < N → parseFieldDescriptor (T k).2.2.1 = some (ty0 k)) (hnm : ∀ a, a < N → ∀ b, b < N → a ≠ b → (T a).2.1 ≠ (T b).2.1) (hown : s.vm.findClass own = some m.cls) (hK : va_K D cl tys s) (hS0 : va_S A H0 H locs) {fs : List Value} (hA : A a) (he : va_at D cl (a, .inr (ci, fs)) H) (hc : cl[ci]? = some (C, T, N)) (k : Nat) (hk : k < N) (hC : (T k).1 = C) (hlink : (Cond.fieldLink own index C (T k).2.1 (T k).2.2.1).before args s = true) (hfin : (T k).2.2.2 = true → meth.name = "<init>" ∧ C = own) {v : Value} (hn : narrow (ty0 k) v = v) (hfit : fits (ty0 k) v = true) (hl : k < fs.length)
    (hdg : decode cc pc = .ok (.putfield index, 3)) (kk : ∀ (H1 : Heap) (locs1 : List Loc), va_at D cl (a, .inr (ci, fs.set k v)) H1 → H1.size = H.size → (∀ q, q ≠ a → H1[q]? = H[q]?) → va_S A H0 H1 locs1 → W p l e R s m args below meth c H1 locs1 cells slots Q (F0 m (pc + 3) ls rest)) : W p l e R s m args below meth c H locs cells slots Q (F0 m pc ls (v :: .ref a :: rest)) := by
  have hap := va_apart (own := own) hts hin ty0 hty hnm hK hc
  obtain ⟨r, h1, cell, q1, q2, q3, q4⟩ := he
  have hr : r = (C, T, N) := Option.some.inj (h1.symm.trans hc)
  subst hr
  obtain ⟨hS, hfc, kC, hkC, hkind⟩ := hK.1 ci _ hc
  obtain ⟨cf, kf, fi, f, hi, hsl⟩ := hS k hk
  have hi' : s.fieldFound? C (T k).2.1 (T k).2.2.1 = some (cf, kf, fi, f) := by rw [← hC]; exact hi
  have hlay := hts _ (hin _ (u_in_lay hk))
  have hst := (u_facts hfc hkC (u_lays hts hin hk) hi).1
  cases hf : (T k).2.2.2 with
  | false =>
    unfold u_lay at hlay
    rw [if_neg (by rw [hf]; decide)] at hlay
    have h6 := u_store hfc hkC hkind hlay hi (hty k hk) hn hfit
    refine W.putK hexec hb (f := f) ⟨hown, hlink, ⟨_, _, _, hi'⟩, hst⟩ (by rw [q2]; exact h6) q1 q3 (by rw [hsl]; exact k2_hasslot (q4 k hk)) rfl rfl hdg fun H' e1 e2 e3 => ?_
    rw [hsl] at e1 ⊢
    exact kk H' _ ⟨_, hc, t_OB.to (V := updV (vp_V fs) k v) ⟨_, e1, q2, q3, t_set q4 hap hk v⟩ (fun j _ => vp_updV_set hl v j)⟩ e2 e3 (hS0.put e2 e3 hA)
  | true =>
    obtain ⟨hin2, hdecl⟩ := hfin hf
    unfold u_lay at hlay
    rw [if_pos hf] at hlay
    have hcf : m.cls = cf := by
      obtain ⟨_, _, c', _, _, _, -, -, hf', -, -, -, hown2, -⟩ := Cond.laysFinal_spec hlay
      have e1 : c' = cf := by have := hi.symm.trans hf'; simp at this; exact this.1.symm
      rw [hC, hdecl] at hown2
      rw [← e1]; exact Option.some.inj (hown.symm.trans hown2)
    have h6 := u_fits hfc hkC hkind (Or.inr hlay) hi (hty k hk) hn hfit
    refine W.putFinK hexec hb hown hlink hi' hst hcf hin2 (by rw [q2]; exact h6) q1 q3 (by rw [hsl]; exact k2_hasslot (q4 k hk)) rfl rfl hdg fun H' e1 e2 e3 => ?_
    rw [hsl] at e1 ⊢
    exact kk H' _ ⟨_, hc, t_OB.to (V := updV (vp_V fs) k v) ⟨_, e1, q2, q3, t_set q4 hap hk v⟩ (fun j _ => vp_updV_set hl v j)⟩ e2 e3 (hS0.put e2 e3 hA)
theorem am_iast (hexec : p.tables.exec = Jvm.exec) (hb : c.code = cc) (hS : va_S A H0 H locs) {cA : ClassId} {n : Nat} {f : Nat → Int32} (hAr : ArrOfT s cA .int) (hA : A a) (ha : va_at D cl (a, .inl (cA, n, .inl f)) H) {i : Int32} {x : Int32} (hin : vp_in i n) (hdg : decode cc pc = .ok (.iastore, 1))
    (kk : ∀ (H1 : Heap) (locs1 : List Loc), va_at D cl (a, .inl (cA, n, .inl (upd f i.toNatClampNeg x))) H1 → H1.size = H.size → (∀ q, q ≠ a → H1[q]? = H[q]?) → va_S A H0 H1 locs1 → W p l e R s m args below meth c H1 locs1 cells slots Q (F0 m (pc + 1) ls rest)) : W p l e R s m args below meth c H locs cells slots Q (F0 m pc ls (.int x :: .int i :: .ref a :: rest)) := by
  refine W.iast hexec hb ha (hAr n (fun j => .int (f j))) (fun q => by cases q) (by show ¬ (i < 0 ∨ (arrV _ _ _).slots.size ≤ _); rw [arrV_size]; exact hin) rfl rfl hdg fun H1 e z oq => ?_
  refine kk H1 _ ?_ z oq (hS.put z oq hA)
  have e' : H1[a]? = some ((vp_cell cA (n, .inl f)).setSlot i.toNatClampNeg (.int x)) := e
  show H1[a]? = some (vp_cell cA (n, .inl (upd f i.toNatClampNeg x)))
  rw [e', vp_cell_i, vp_cell_i, arrV_store]
  congr 2
  funext q
  by_cases hq : q = i.toNatClampNeg
  · subst hq
    simp [updV, upd]
  · simp [updV, upd, hq]
theorem am_last (hexec : p.tables.exec = Jvm.exec) (hb : c.code = cc) (hS : va_S A H0 H locs) {cA : ClassId} {n : Nat} {f : Nat → Int64} (hAr : ArrOfT s cA .long) (hA : A a) (ha : va_at D cl (a, .inl (cA, n, .inr (.inl f))) H) {i : Int32} {x : Int64} (hin : vp_in i n) (hdg : decode cc pc = .ok (.lastore, 1))
    (kk : ∀ (H1 : Heap) (locs1 : List Loc), va_at D cl (a, .inl (cA, n, .inr (.inl (vp_updL f i.toNatClampNeg x)))) H1 → H1.size = H.size → (∀ q, q ≠ a → H1[q]? = H[q]?) → va_S A H0 H1 locs1 → W p l e R s m args below meth c H1 locs1 cells slots Q (F0 m (pc + 1) ls rest)) : W p l e R s m args below meth c H locs cells slots Q (F0 m pc ls (.long x :: .int i :: .ref a :: rest)) := by
  refine W.last hexec hb ha (hAr n (fun j => .long (f j))) (fun q => by cases q) (by show ¬ (i < 0 ∨ (arrV _ _ _).slots.size ≤ _); rw [arrV_size]; exact hin) rfl rfl hdg fun H1 e z oq => ?_
  refine kk H1 _ ?_ z oq (hS.put z oq hA)
  have e' : H1[a]? = some ((vp_cell cA (n, .inr (.inl f))).setSlot i.toNatClampNeg (.long x)) := e
  show H1[a]? = some (vp_cell cA (n, .inr (.inl (vp_updL f i.toNatClampNeg x))))
  rw [e', vp_cell_l, vp_cell_l, arrV_store]
  congr 2
  funext q
  by_cases hq : q = i.toNatClampNeg
  · subst hq
    simp [updV, vp_updL]
  · simp [updV, vp_updL, hq]
theorem am_copyi (hexec : p.tables.exec = Jvm.exec) (hb : c.code = cc) (hml : c.maxLocals = ls.size) {own : String} {index : Nat} (hown : s.vm.findClass own = some m.cls) (hlink : (Cond.methodLink own index arraycopyName).before args s = true) (hnat : (Cond.native arraycopyName).before args s = true) (hstat : (Cond.static arraycopyName).before args s = true) (hini : (Cond.initialized "java/lang/System").before args s = true)
    (hS : va_S A H0 H locs) {a0 : Nat} {c0 : ClassId} {n0 n1 : Nat} {f g : Nat → Int32} (hAr : ArrOfT s c0 .int) (hA : A a) (ha0 : va_at D cl (a0, .inl (c0, n0, .inl f)) H) (ha1 : va_at D cl (a, .inl (c0, n1, .inl g)) H)
    {sp dp n : Int32} (h1 : ¬ sp < 0) (h2 : ¬ dp < 0) (h3 : ¬ n < 0) (h4 : sp.toNatClampNeg + n.toNatClampNeg ≤ n0) (h5 : dp.toNatClampNeg + n.toNatClampNeg ≤ n1)
    (hframes : 1 ≤ R.frames) (hlocals : (rest.map fun v => v.category).sum + (nativeFrameWords "java/lang/System" "arraycopy" 5 + 11) ≤ R.locals) (hdg : decode cc pc = .ok (.invokestatic index, 3))
    (kk : ∀ (H1 : Heap) (locs1 : List Loc), va_at D cl (a, .inl (c0, n1, .inl (va_cpy f g sp.toNatClampNeg dp.toNatClampNeg n.toNatClampNeg))) H1 → H1.size = H.size → (∀ q, q ≠ a → H1[q]? = H[q]?) → va_S A H0 H1 locs1 → W p l e R s m args below meth c H1 locs1 cells slots Q (F0 m (pc + 3) ls rest)) : W p l e R s m args below meth c H locs cells slots Q (F0 m pc ls (.int n :: .int dp :: .ref a :: .int sp :: .ref a0 :: rest)) := by
  have nn : ∀ z : Int32, ¬ z < 0 → z.toInt = (z.toNatClampNeg : Int) := by
    intro z hz
    have hz0 : (0 : Int) ≤ z.toInt := by
      have := Int32.not_lt.mp hz
      simpa using Int32.le_iff_toInt_le.mp this
    show z.toInt = ((z.toInt.toNat : Nat) : Int)
    omega
  intro T hT X
  have hc0 : H[a0]? = some (vp_cell c0 (n0, .inl f)) := ha0
  have hc1 : H[a]? = some (vp_cell c0 (n1, .inl g)) := ha1
  obtain ⟨-, k0, hk0, cm0, hkk0⟩ := hAr n0 (fun j => .int (f j))
  obtain ⟨-, k1, hk1, cm1, hkk1⟩ := hAr n1 (fun j => .int (g j))
  obtain ⟨vm', X', step⟩ := X.arraycopy hexec hown hlink hnat hstat hini (src := a0) (dst := a) (cs := vp_cell c0 (n0, .inl f)) (cd := vp_cell c0 (n1, .inl g)) (srcPos := sp) (destPos := dp) (n := n) (by rw [hT]; exact hc0) (by rw [hT]; exact hc1)
    (fun _ h => by cases h) (fun _ h => by cases h) (fun h => by cases h) (fun h => by cases h) hk0 hk1 hkk0 hkk1 (by simp [refKind]) h1 h2 h3
    (by rw [nn sp h1, nn n h3]; show ¬ _ > ((arrV c0 n0 (fun j => .int (f j))).slots.size : Int); rw [arrV_size]; omega)
    (by rw [nn dp h2, nn n h3]; show ¬ _ > ((arrV c0 n1 (fun j => .int (g j))).slots.size : Int); rw [arrV_size]; omega)
    (fun vm₁ _ i hi => by
      have e : (vp_cell c0 (n0, .inl f)).slots.getD (sp.toNatClampNeg + i) .null = .int (f (sp.toNatClampNeg + i)) := by
        show (arrV c0 n0 (fun j => .int (f j))).slots.getD _ _ = _
        rw [Array.getD_eq_getD_getElem?, arrV_read _ _ (by omega)]
        rfl
      refine ⟨?_, ?_⟩
      · rw [e]
        rfl
      · rw [e]
        exact trivial)
    (g := F0 m pc ls (.int n :: .int dp :: .ref a :: .int sp :: .ref a0 :: rest)) rfl (by rw [hml]) (rest := rest) rfl (by rw [hb]; exact hdg) hframes (by show 2 * 0 + _ + _ ≤ _; omega)
  have e1 : copied (vp_cell c0 (n0, .inl f)) (vp_cell c0 (n1, .inl g)) sp dp n = vp_cell c0 (n1, .inl (va_cpy f g sp.toNatClampNeg dp.toNatClampNeg n.toNatClampNeg)) := va_copied (fun z => .int z) c0 c0 f g h4
  rw [e1] at X' step
  have hl : a < H.size := (Array.getElem?_eq_some_iff.mp hc1).1
  have hheap : ((T.setVm vm').setCell a (vp_cell c0 (n1, .inl (va_cpy f g sp.toNatClampNeg dp.toNatClampNeg n.toNatClampNeg)))).heap = H.setIfInBounds a (vp_cell c0 (n1, .inl (va_cpy f g sp.toNatClampNeg dp.toNatClampNeg n.toNatClampNeg))) := by rw [← hT]; rfl
  have oq : ∀ q : Nat, q ≠ a → (H.setIfInBounds a (vp_cell c0 (n1, .inl (va_cpy f g sp.toNatClampNeg dp.toNatClampNeg n.toNatClampNeg))))[q]? = H[q]? := fun q hq => by simp [Array.getElem?_setIfInBounds, Ne.symm hq]
  obtain ⟨t, a1, b1⟩ := kk _ _ (show (H.setIfInBounds a _)[a]? = some _ by simp [Array.getElem?_setIfInBounds, hl]) (by simp) oq ⟨by simp; exact hS.1, fun q g1 g2 => by
      rw [oq q (fun e => g2 (by rw [e]; exact hA))]
      exact hS.2.1 q g1 g2, fun q hq => by
      rcases List.mem_append.mp hq with h | h
      · exact hS.2.2 q h
      · obtain ⟨z, -, hz⟩ := List.mem_map.mp h
        rw [← hz]
        exact hA⟩ _ hheap X'
  exact ⟨t, step t a1, b1⟩
end AM
theorem ab_isT_0 {v : Value} (h : ab_isT 0 v = true) : ∃ z, v = .int z := by cases v <;> simp [ab_isT] at h; exact ⟨_, rfl⟩
theorem ab_isT_1 {v : Value} (h : ab_isT 1 v = true) : ∃ z, v = .long z := by cases v <;> simp [ab_isT] at h; exact ⟨_, rfl⟩
theorem ab_isT_2 {v : Value} (h : ab_isT 2 v = true) : ∃ z, v = .double z := by cases v <;> simp [ab_isT] at h; exact ⟨_, rfl⟩
theorem ab_isT_3 {v : Value} (h : ab_isT 3 v = true) : ∃ z, v = .ref z := by cases v <;> simp [ab_isT] at h; exact ⟨_, rfl⟩
section INV
variable {t pc n a b : Nat} {L : AL} {st : List Value} {h : AH} {r : List Prop × (Nat × AL × List Value) × AH}
theorem ab_load_inv (hs : ab_load t pc n a L st h = some r) : ∃ v, L[a]? = some (some v) ∧ ab_isT t v = true ∧ r = ([], (pc + n, L, v :: st), h) := by
  unfold ab_load at hs
  split at hs
  · rename_i v hv
    split at hs
    · cases hs; exact ⟨v, hv, by assumption, rfl⟩
    · cases hs
  · cases hs
theorem ab_store1_inv (hs : ab_store1 t pc n a L st h = some r) : ∃ v q, st = v :: q ∧ ab_isT t v = true ∧ r = ([], (pc + n, ab_put1 L a v, q), h) := by
  unfold ab_store1 at hs
  split at hs
  · split at hs
    · cases hs; exact ⟨_, _, rfl, by assumption, rfl⟩
    · cases hs
  · cases hs
theorem ab_store2_inv (hs : ab_store2 t pc n a L st h = some r) : ∃ v q, st = v :: q ∧ ab_isT t v = true ∧ r = ([], (pc + n, ab_put2 L a v, q), h) := by
  unfold ab_store2 at hs
  split at hs
  · split at hs
    · cases hs; exact ⟨_, _, rfl, by assumption, rfl⟩
    · cases hs
  · cases hs
theorem ab_bin_inv {f : Int32 → Int32 → Int32} (hs : ab_bin f pc n L st h = some r) : ∃ x y q, st = .int y :: .int x :: q ∧ r = ([], (pc + n, L, .int (f x y) :: q), h) := by
  unfold ab_bin at hs
  split at hs
  · cases hs; exact ⟨_, _, _, rfl, rfl⟩
  · cases hs
theorem ab_binZ_inv {f : Int32 → Int32 → Int32} (hs : ab_binZ f pc n L st h = some r) : ∃ x y q, st = .int y :: .int x :: q ∧ r = ([¬ y = 0], (pc + n, L, .int (f x y) :: q), h) := by
  unfold ab_binZ at hs
  split at hs
  · cases hs; exact ⟨_, _, _, rfl, rfl⟩
  · cases hs
theorem ab_un_inv {f : Int32 → Value} (hs : ab_un f pc n L st h = some r) : ∃ x q, st = .int x :: q ∧ r = ([], (pc + n, L, f x :: q), h) := by
  unfold ab_un at hs
  split at hs
  · cases hs; exact ⟨_, _, rfl, rfl⟩
  · cases hs
theorem ab_binL_inv {f : Int64 → Int64 → Value} (hs : ab_binL f pc n L st h = some r) : ∃ x y q, st = .long y :: .long x :: q ∧ r = ([], (pc + n, L, f x y :: q), h) := by
  unfold ab_binL at hs
  split at hs
  · cases hs; exact ⟨_, _, _, rfl, rfl⟩
  · cases hs
theorem ab_binD_inv {f : UInt64 → UInt64 → UInt64} (hs : ab_binD f pc n L st h = some r) : ∃ x y q, st = .double y :: .double x :: q ∧ r = ([vf_n64 (f x y)], (pc + n, L, .double (f x y) :: q), h) := by
  unfold ab_binD at hs
  split at hs
  · cases hs; exact ⟨_, _, _, rfl, rfl⟩
  · cases hs
theorem ab_getf_inv (hs : ab_getf pc n a b L st h = some r) : ∃ q z fs w, st = .ref q :: z ∧ ab_get h q = some (.inr (a, fs)) ∧ fs[b]? = some w ∧ r = ([], (pc + n, L, w :: z), h) := by
  unfold ab_getf at hs
  split at hs
  · split at hs
    · split at hs
      · rename_i h1 h2
        cases hs
        have h1 := Nat.eq_of_beq_eq_true h1
        subst h1
        exact ⟨_, _, _, _, rfl, by assumption, h2, rfl⟩
      · cases hs
    · cases hs
  · cases hs
theorem ab_putf_inv (hs : ab_putf pc n a b L st h = some r) : ∃ w q z fs, st = w :: .ref q :: z ∧ ab_get h q = some (.inr (a, fs)) ∧ b < fs.length ∧ ab_okv (ab_ty a b) w = true ∧ r = ([], (pc + n, L, z), ab_set h q (.inr (a, fs.set b w))) := by
  unfold ab_putf at hs
  split at hs
  · split at hs
    · split at hs
      · rename_i h1 h2 h3
        cases hs
        have h1 := Nat.eq_of_beq_eq_true h1
        subst h1
        exact ⟨_, _, _, _, rfl, by assumption, by simpa using h2, h3, rfl⟩
      · cases hs
    · cases hs
  · cases hs
theorem ab_ald_inv (hs : ab_ald pc n L st h = some r) : ∃ i q z k f, st = .int i :: .ref q :: z ∧ ab_get h q = some (.inl (.inl (k, f))) ∧ r = ([vp_in i k], (pc + n, L, .int (f i.toNatClampNeg) :: z), h) := by
  unfold ab_ald at hs
  split at hs
  · split at hs
    · cases hs; exact ⟨_, _, _, _, _, rfl, by assumption, rfl⟩
    · cases hs
  · cases hs
theorem ab_lald_inv (hs : ab_lald pc n L st h = some r) : ∃ i q z k f, st = .int i :: .ref q :: z ∧ ab_get h q = some (.inl (.inr (k, f))) ∧ r = ([vp_in i k], (pc + n, L, .long (f i.toNatClampNeg) :: z), h) := by
  unfold ab_lald at hs
  split at hs
  · split at hs
    · cases hs; exact ⟨_, _, _, _, _, rfl, by assumption, rfl⟩
    · cases hs
  · cases hs
theorem ab_ne0 {q : Nat} (h : Nat.beq (q / 4096) 0 = false) : ¬ q / 4096 = 0 := by
  intro e
  rw [e] at h
  cases h
theorem ab_ast_inv (hs : ab_ast pc n L st h = some r) : ∃ x i q z k f, st = .int x :: .int i :: .ref q :: z ∧ ab_get h q = some (.inl (.inl (k, f))) ∧ ¬ q / 4096 = 0 ∧ r = ([vp_in i k], (pc + n, L, z), ab_set h q (.inl (.inl (k, upd f i.toNatClampNeg x)))) := by
  unfold ab_ast at hs
  split at hs
  · split at hs
    · rename_i h1 h2
      cases hs; exact ⟨_, _, _, _, _, _, rfl, h1, ab_ne0 h2, rfl⟩
    · cases hs
  · cases hs
theorem ab_last_inv (hs : ab_last pc n L st h = some r) : ∃ x i q z k f, st = .long x :: .int i :: .ref q :: z ∧ ab_get h q = some (.inl (.inr (k, f))) ∧ ¬ q / 4096 = 0 ∧ r = ([vp_in i k], (pc + n, L, z), ab_set h q (.inl (.inr (k, vp_updL f i.toNatClampNeg x)))) := by
  unfold ab_last at hs
  split at hs
  · split at hs
    · rename_i h1 h2
      cases hs; exact ⟨_, _, _, _, _, _, rfl, h1, ab_ne0 h2, rfl⟩
    · cases hs
  · cases hs
theorem ab_alen_inv (hs : ab_alen pc n L st h = some r) : ∃ q z k f, st = .ref q :: z ∧ ab_get h q = some (.inl (.inl (k, f))) ∧ r = ([], (pc + n, L, .int (Int32.ofNat k) :: z), h) := by
  unfold ab_alen at hs
  split at hs
  · split at hs
    · cases hs; exact ⟨_, _, _, _, rfl, by assumption, rfl⟩
    · cases hs
  · cases hs
end INV
theorem ab_okv_ok {E : AE} {ty : FieldType} {w : Value} (h : ab_okv ty w = true) : narrow ty (ab_v E w) = ab_v E w ∧ fits ty (ab_v E w) = true := by
  cases ty <;> cases w <;> simp [ab_okv] at h <;> exact ⟨rfl, rfl⟩
theorem ab_R_arr {E : AE} {h : AH} {U : State} {H : Heap} (hR : ab_R E h U H) {q k : Nat} {f : Nat → Int32} (hg : ab_get h q = some (.inl (.inl (k, f)))) (hA : ArrOfT U E.cI .int) : ∃ cell : Cell, H[ab_adr E q]? = some cell ∧ U.isArrayOf cell .int ∧ cell.vm ≠ .unknown ∧ k ≤ cell.slots.size ∧ cell.slots.size.toInt32 = Int32.ofNat k ∧ ∀ j, j < k → cell.slots[j]? = some (.int (f j)) := by
  by_cases q0 : q / 4096 = 0
  · obtain ⟨n, f', e1, e2, e3⟩ := hR.2.2.2.2 q _ q0 hg
    cases e1
    exact e3
  · have h1 := hR.2.2.2.1 q _ q0 hg
    exact ⟨_, h1, hA k (fun j => .int (f j)), (fun z => by cases z), by show _ ≤ (arrV _ _ _).slots.size; rw [arrV_size]; try exact Nat.le_refl _, by show (arrV _ _ _).slots.size.toInt32 = _; rw [arrV_size]; try rfl, fun j hj => by show (arrV _ _ _).slots[_]? = _; rw [arrV_read _ _ hj]⟩
end
section
theorem ab_link_inv {own : String} {idx a b c : Nat} (h : ab_link own idx a b c = true) : ∃ C T N, vwCl[a]? = some (C, T, N) ∧ b < N ∧ Cond.fieldLink own idx C (T b).2.1 (T b).2.2.1 ∈ ab_W := by
  unfold ab_link at h
  split at h
  · rename_i C T N hc
    rw [Bool.and_eq_true] at h
    exact ⟨C, T, N, hc, by simpa using h.1, ab_at_mem h.2⟩
  · cases h
theorem ab_new_of {E : AE} {h : AH} {U : State} {H : Heap} (hR : ab_R E h U H) {q : Nat} {z : Nat × List Value} (hg : ab_get h q = some (.inr z)) : ¬ q / 4096 = 0 := by
  intro e
  obtain ⟨n, f, e1, -⟩ := hR.2.2.2.2 q _ e hg
  cases e1
theorem ab_new_ofL {E : AE} {h : AH} {U : State} {H : Heap} (hR : ab_R E h U H) {q : Nat} {z : Nat × (Nat → Int64)} (hg : ab_get h q = some (.inl (.inr z))) : ¬ q / 4096 = 0 := by
  intro e
  obtain ⟨n, f, e1, -⟩ := hR.2.2.2.2 q _ e hg
  cases e1
theorem ab_catmap (E : AE) (z : List Value) : ((z.map (ab_v E)).map fun v => v.category).sum = (z.map fun v => v.category).sum := by
  rw [List.map_map]
  congr 1
  exact List.map_congr_left fun v _ => ab_cat_v E v
theorem ab_cat8 {E : AE} {z : List Value} (h : ab_cat z = true) : ((z.map (ab_v E)).map fun v => v.category).sum ≤ 8 := by
  rw [ab_catmap]
  exact Nat.le_of_ble_eq_true h
set_option maxHeartbeats 4000000 in
set_option maxRecDepth 100000 in
/-- one instruction -/
theorem ab_step_ok {E : AE} {M : AM} {d : Nat} {x : AI} (hx : ab_ok M x = true) {L : AL} {st : List Value} {h : AH} {Ps : List Prop} {pc' : Nat} {L' : AL} {st' : List Value} {h1 : AH} (hs : ab_step x L st h = some (Ps, (pc', L', st'), h1)) (hp : ab_all Ps) {o : AR0} {h' : AH} {mc ms : Nat} (k : AR E M d pc' L' st' h1 o h' mc ms) : AR E M d x.1 L st h o h' mc ms := by
  obtain ⟨pc, i, n, a, b, c9, v⟩ := x
  intro p e R s m args below meth c H locs cells slots ls mcT msT C hR hS hl b1 b2 b3 b4
  obtain ⟨cx, cb, cml, cr, cown, cw, clk, cnm, cex, cK, cSF, cf, clo, cfi, cfj⟩ := id C
  unfold ab_ok at hx
  rw [Bool.and_eq_true, decide_eq_true_eq] at hx
  obtain ⟨hd, hk⟩ := hx
  dsimp only at hd ⊢
  have hmL : c.maxLocals = ls.size := cml.trans hl.1.symm
  cases i with
  | iconst q =>
    simp only [ab_okI, Bool.and_eq_true, decide_eq_true_eq] at hk
    obtain ⟨hn, hv⟩ := hk
    have hn := Nat.eq_of_beq_eq_true hn
    subst hn
    subst hv
    cases hs
    exact lv_iconst cx cb hd rfl (k p e R s m args below meth c H locs cells slots ls mcT msT C hR hS hl b1 b2 b3 b4)
  | bipush q =>
    simp only [ab_okI, Bool.and_eq_true, decide_eq_true_eq] at hk
    obtain ⟨hn, hv⟩ := hk
    have hn := Nat.eq_of_beq_eq_true hn
    subst hn
    subst hv
    cases hs
    exact lv_bipush cx cb hd rfl (k p e R s m args below meth c H locs cells slots ls mcT msT C hR hS hl b1 b2 b3 b4)
  | sipush q =>
    simp only [ab_okI, Bool.and_eq_true, decide_eq_true_eq] at hk
    obtain ⟨hn, hv⟩ := hk
    have hn := Nat.eq_of_beq_eq_true hn
    subst hn
    subst hv
    cases hs
    exact lv_sipush cx cb hd rfl (k p e R s m args below meth c H locs cells slots ls mcT msT C hR hS hl b1 b2 b3 b4)
  | lconst q =>
    simp only [ab_okI, Bool.and_eq_true, decide_eq_true_eq] at hk
    obtain ⟨hn, hv⟩ := hk
    have hn := Nat.eq_of_beq_eq_true hn
    subst hn
    subst hv
    cases hs
    exact lv_lconst cx cb hd rfl (k p e R s m args below meth c H locs cells slots ls mcT msT C hR hS hl b1 b2 b3 b4)
  | dconst q =>
    simp only [ab_okI, Bool.and_eq_true] at hk
    obtain ⟨hn, hv⟩ := hk
    have hn := Nat.eq_of_beq_eq_true hn
    subst hn
    cases hs
    match q, hd, hv with
    | 0, hd, hv =>
      have hv := of_decide_eq_true hv
      subst hv
      exact lv_dconst0 cx cb hd (k p e R s m args below meth c H locs cells slots ls mcT msT C hR hS hl b1 b2 b3 b4)
    | 1, hd, hv =>
      have hv := of_decide_eq_true hv
      subst hv
      exact lv_dconst1 cx cb hd (k p e R s m args below meth c H locs cells slots ls mcT msT C hR hS hl b1 b2 b3 b4)
  | ldc q =>
    simp only [ab_okI, Bool.and_eq_true] at hk
    obtain ⟨hn, hv⟩ := hk
    have hn := Nat.eq_of_beq_eq_true hn
    subst hn
    cases hs
    cases v with
    | int z => exact lv_ldc cx cb cown (cw _ (ab_at_mem hv)) hd (k p e R s m args below meth c H locs cells slots ls mcT msT C hR hS hl b1 b2 b3 b4)
    | _ => cases hv
  | ldc2_w q =>
    simp only [ab_okI, Bool.and_eq_true] at hk
    obtain ⟨hn, hv⟩ := hk
    have hn := Nat.eq_of_beq_eq_true hn
    subst hn
    cases hs
    cases v with
    | long z => exact lv_ldc2 cx cb cown (cw _ (ab_at_mem hv)) hd (k p e R s m args below meth c H locs cells slots ls mcT msT C hR hS hl b1 b2 b3 b4)
    | double z => exact lv_ldc2d cx cb cown (cw _ (ab_at_mem hv)) hd (k p e R s m args below meth c H locs cells slots ls mcT msT C hR hS hl b1 b2 b3 b4)
    | _ => cases hv
  | iload q =>
    simp only [ab_okI, Bool.and_eq_true] at hk
    obtain ⟨hn, he⟩ := hk
    have hn := Nat.eq_of_beq_eq_true hn
    subst hn
    have he := Nat.eq_of_beq_eq_true he
    subst he
    obtain ⟨v1, g1, g2, g3⟩ := ab_load_inv hs
    obtain ⟨z, rfl⟩ := ab_isT_0 g2
    cases g3
    exact lv_iload cx cb hd (ab_has_at hl g1) (k p e R s m args below meth c H locs cells slots ls mcT msT C hR hS hl b1 b2 b3 b4)
  | iload_n q =>
    simp only [ab_okI, Bool.and_eq_true] at hk
    obtain ⟨hn, he⟩ := hk
    have hn := Nat.eq_of_beq_eq_true hn
    subst hn
    have he := Nat.eq_of_beq_eq_true he
    obtain ⟨v1, g1, g2, g3⟩ := ab_load_inv hs
    obtain ⟨z, rfl⟩ := ab_isT_0 g2
    cases g3
    exact lv_iload_n cx cb hd he (ab_has_at hl g1) (k p e R s m args below meth c H locs cells slots ls mcT msT C hR hS hl b1 b2 b3 b4)
  | lload q =>
    simp only [ab_okI, Bool.and_eq_true] at hk
    obtain ⟨hn, he⟩ := hk
    have hn := Nat.eq_of_beq_eq_true hn
    subst hn
    have he := Nat.eq_of_beq_eq_true he
    subst he
    obtain ⟨v1, g1, g2, g3⟩ := ab_load_inv hs
    obtain ⟨z, rfl⟩ := ab_isT_1 g2
    cases g3
    exact lv_lload cx cb hd (ab_has_at hl g1) (k p e R s m args below meth c H locs cells slots ls mcT msT C hR hS hl b1 b2 b3 b4)
  | lload_n q =>
    simp only [ab_okI, Bool.and_eq_true] at hk
    obtain ⟨hn, he⟩ := hk
    have hn := Nat.eq_of_beq_eq_true hn
    subst hn
    have he := Nat.eq_of_beq_eq_true he
    obtain ⟨v1, g1, g2, g3⟩ := ab_load_inv hs
    obtain ⟨z, rfl⟩ := ab_isT_1 g2
    cases g3
    exact lv_lload_n cx cb hd he (ab_has_at hl g1) (k p e R s m args below meth c H locs cells slots ls mcT msT C hR hS hl b1 b2 b3 b4)
  | dload q =>
    simp only [ab_okI, Bool.and_eq_true] at hk
    obtain ⟨hn, he⟩ := hk
    have hn := Nat.eq_of_beq_eq_true hn
    subst hn
    have he := Nat.eq_of_beq_eq_true he
    subst he
    obtain ⟨v1, g1, g2, g3⟩ := ab_load_inv hs
    obtain ⟨z, rfl⟩ := ab_isT_2 g2
    cases g3
    exact lv_dload cx cb hd (ab_has_at hl g1) (k p e R s m args below meth c H locs cells slots ls mcT msT C hR hS hl b1 b2 b3 b4)
  | dload_n q =>
    simp only [ab_okI, Bool.and_eq_true] at hk
    obtain ⟨hn, he⟩ := hk
    have hn := Nat.eq_of_beq_eq_true hn
    subst hn
    have he := Nat.eq_of_beq_eq_true he
    obtain ⟨v1, g1, g2, g3⟩ := ab_load_inv hs
    obtain ⟨z, rfl⟩ := ab_isT_2 g2
    cases g3
    exact lv_dload_n cx cb hd he (ab_has_at hl g1) (k p e R s m args below meth c H locs cells slots ls mcT msT C hR hS hl b1 b2 b3 b4)
  | aload q =>
    simp only [ab_okI, Bool.and_eq_true] at hk
    obtain ⟨hn, he⟩ := hk
    have hn := Nat.eq_of_beq_eq_true hn
    subst hn
    have he := Nat.eq_of_beq_eq_true he
    subst he
    obtain ⟨v1, g1, g2, g3⟩ := ab_load_inv hs
    obtain ⟨z, rfl⟩ := ab_isT_3 g2
    cases g3
    exact lv_aload cx cb hd (ab_has_at hl g1) (k p e R s m args below meth c H locs cells slots ls mcT msT C hR hS hl b1 b2 b3 b4)
  | aload_n q =>
    simp only [ab_okI, Bool.and_eq_true] at hk
    obtain ⟨hn, he⟩ := hk
    have hn := Nat.eq_of_beq_eq_true hn
    subst hn
    have he := Nat.eq_of_beq_eq_true he
    obtain ⟨v1, g1, g2, g3⟩ := ab_load_inv hs
    obtain ⟨z, rfl⟩ := ab_isT_3 g2
    cases g3
    exact lv_aload_n cx cb hd he (ab_has_at hl g1) (k p e R s m args below meth c H locs cells slots ls mcT msT C hR hS hl b1 b2 b3 b4)
  | istore q =>
    simp only [ab_okI, Bool.and_eq_true] at hk
    obtain ⟨⟨hn, he⟩, hlt⟩ := hk
    have hn := Nat.eq_of_beq_eq_true hn
    subst hn
    have he := Nat.eq_of_beq_eq_true he
    subst he
    have hlt := Nat.le_of_ble_eq_true hlt
    obtain ⟨v1, r1, rfl, g2, g3⟩ := ab_store1_inv hs
    obtain ⟨z, rfl⟩ := ab_isT_0 g2
    cases g3
    exact lv_istore (lv' := _) cx cb hd hl hlt rfl (fun ls' hl' => k p e R s m args below meth c H locs cells slots ls' mcT msT C hR hS (ab_put1_has hl') b1 b2 b3 b4)
  | istore_n q =>
    simp only [ab_okI, Bool.and_eq_true] at hk
    obtain ⟨⟨hn, he⟩, hlt⟩ := hk
    have hn := Nat.eq_of_beq_eq_true hn
    subst hn
    have he := Nat.eq_of_beq_eq_true he
    have hlt := Nat.le_of_ble_eq_true hlt
    obtain ⟨v1, r1, rfl, g2, g3⟩ := ab_store1_inv hs
    obtain ⟨z, rfl⟩ := ab_isT_0 g2
    cases g3
    exact lv_istore_n (lv' := _) cx cb hd he hl hlt rfl (fun ls' hl' => k p e R s m args below meth c H locs cells slots ls' mcT msT C hR hS (ab_put1_has hl') b1 b2 b3 b4)
  | astore q =>
    simp only [ab_okI, Bool.and_eq_true] at hk
    obtain ⟨⟨hn, he⟩, hlt⟩ := hk
    have hn := Nat.eq_of_beq_eq_true hn
    subst hn
    have he := Nat.eq_of_beq_eq_true he
    subst he
    have hlt := Nat.le_of_ble_eq_true hlt
    obtain ⟨v1, r1, rfl, g2, g3⟩ := ab_store1_inv hs
    obtain ⟨z, rfl⟩ := ab_isT_3 g2
    cases g3
    exact lv_astore (lv' := _) cx cb hd hl hlt rfl (fun ls' hl' => k p e R s m args below meth c H locs cells slots ls' mcT msT C hR hS (ab_put1_has hl') b1 b2 b3 b4)
  | astore_n q =>
    simp only [ab_okI, Bool.and_eq_true] at hk
    obtain ⟨⟨hn, he⟩, hlt⟩ := hk
    have hn := Nat.eq_of_beq_eq_true hn
    subst hn
    have he := Nat.eq_of_beq_eq_true he
    have hlt := Nat.le_of_ble_eq_true hlt
    obtain ⟨v1, r1, rfl, g2, g3⟩ := ab_store1_inv hs
    obtain ⟨z, rfl⟩ := ab_isT_3 g2
    cases g3
    exact lv_astore_n (lv' := _) cx cb hd he hl hlt rfl (fun ls' hl' => k p e R s m args below meth c H locs cells slots ls' mcT msT C hR hS (ab_put1_has hl') b1 b2 b3 b4)
  | lstore q =>
    simp only [ab_okI, Bool.and_eq_true] at hk
    obtain ⟨⟨hn, he⟩, hlt⟩ := hk
    have hn := Nat.eq_of_beq_eq_true hn
    subst hn
    have he := Nat.eq_of_beq_eq_true he
    subst he
    have hlt := Nat.le_of_ble_eq_true hlt
    obtain ⟨v1, r1, rfl, g2, g3⟩ := ab_store2_inv hs
    obtain ⟨z, rfl⟩ := ab_isT_1 g2
    cases g3
    exact lv_lstore (lv' := _) cx cb hd hl hlt rfl (fun ls' hl' => k p e R s m args below meth c H locs cells slots ls' mcT msT C hR hS (ab_put2_has hl') b1 b2 b3 b4)
  | lstore_n q =>
    simp only [ab_okI, Bool.and_eq_true] at hk
    obtain ⟨⟨hn, he⟩, hlt⟩ := hk
    have hn := Nat.eq_of_beq_eq_true hn
    subst hn
    have he := Nat.eq_of_beq_eq_true he
    have hlt := Nat.le_of_ble_eq_true hlt
    obtain ⟨v1, r1, rfl, g2, g3⟩ := ab_store2_inv hs
    obtain ⟨z, rfl⟩ := ab_isT_1 g2
    cases g3
    exact lv_lstore_n (lv' := _) cx cb hd he hl hlt rfl (fun ls' hl' => k p e R s m args below meth c H locs cells slots ls' mcT msT C hR hS (ab_put2_has hl') b1 b2 b3 b4)
  | dstore q =>
    simp only [ab_okI, Bool.and_eq_true] at hk
    obtain ⟨⟨hn, he⟩, hlt⟩ := hk
    have hn := Nat.eq_of_beq_eq_true hn
    subst hn
    have he := Nat.eq_of_beq_eq_true he
    subst he
    have hlt := Nat.le_of_ble_eq_true hlt
    obtain ⟨v1, r1, rfl, g2, g3⟩ := ab_store2_inv hs
    obtain ⟨z, rfl⟩ := ab_isT_2 g2
    cases g3
    exact lv_dstore (lv' := _) cx cb hd hl hlt rfl (fun ls' hl' => k p e R s m args below meth c H locs cells slots ls' mcT msT C hR hS (ab_put2_has hl') b1 b2 b3 b4)
  | dstore_n q =>
    simp only [ab_okI, Bool.and_eq_true] at hk
    obtain ⟨⟨hn, he⟩, hlt⟩ := hk
    have hn := Nat.eq_of_beq_eq_true hn
    subst hn
    have he := Nat.eq_of_beq_eq_true he
    have hlt := Nat.le_of_ble_eq_true hlt
    obtain ⟨v1, r1, rfl, g2, g3⟩ := ab_store2_inv hs
    obtain ⟨z, rfl⟩ := ab_isT_2 g2
    cases g3
    exact lv_dstore_n (lv' := _) cx cb hd he hl hlt rfl (fun ls' hl' => k p e R s m args below meth c H locs cells slots ls' mcT msT C hR hS (ab_put2_has hl') b1 b2 b3 b4)
  | iinc q z =>
    simp only [ab_okI, Bool.and_eq_true, decide_eq_true_eq] at hk
    obtain ⟨⟨⟨hn, he⟩, hlt⟩, hv⟩ := hk
    have hn := Nat.eq_of_beq_eq_true hn
    subst hn
    have he := Nat.eq_of_beq_eq_true he
    subst he
    subst hv
    have hlt := Nat.le_of_ble_eq_true hlt
    simp only [ab_step] at hs
    split at hs
    · rename_i x1 k1 g1 g2
      cases hs
      cases g2
      have hm : (q, Value.int x1) ∈ ab_lvs E L := ab_lvs_mem.mpr ⟨.int x1, g1, rfl⟩
      obtain ⟨j, hj⟩ := List.getElem?_of_mem hm
      exact lv_iinc (k := j) (lv' := _) cx cb hd hl hj rfl hlt rfl (fun ls' hl' => k p e R s m args below meth c H locs cells slots ls' mcT msT C hR hS (ab_put1_has (v := .int (x1 + Int32.ofInt z)) hl') b1 b2 b3 b4)
    · cases hs
  | iadd =>
    have hn := Nat.eq_of_beq_eq_true (show Nat.beq n 1 = true from hk)
    subst hn
    obtain ⟨x1, y1, r1, rfl, g⟩ := ab_bin_inv hs
    cases g
    exact lv_iadd cx cb hd (k p e R s m args below meth c H locs cells slots ls mcT msT C hR hS hl b1 b2 b3 b4)
  | isub =>
    have hn := Nat.eq_of_beq_eq_true (show Nat.beq n 1 = true from hk)
    subst hn
    obtain ⟨x1, y1, r1, rfl, g⟩ := ab_bin_inv hs
    cases g
    exact lv_isub cx cb hd (k p e R s m args below meth c H locs cells slots ls mcT msT C hR hS hl b1 b2 b3 b4)
  | imul =>
    have hn := Nat.eq_of_beq_eq_true (show Nat.beq n 1 = true from hk)
    subst hn
    obtain ⟨x1, y1, r1, rfl, g⟩ := ab_bin_inv hs
    cases g
    exact lv_imul cx cb hd (k p e R s m args below meth c H locs cells slots ls mcT msT C hR hS hl b1 b2 b3 b4)
  | iand =>
    have hn := Nat.eq_of_beq_eq_true (show Nat.beq n 1 = true from hk)
    subst hn
    obtain ⟨x1, y1, r1, rfl, g⟩ := ab_bin_inv hs
    cases g
    exact lv_iand cx cb hd (k p e R s m args below meth c H locs cells slots ls mcT msT C hR hS hl b1 b2 b3 b4)
  | ior =>
    have hn := Nat.eq_of_beq_eq_true (show Nat.beq n 1 = true from hk)
    subst hn
    obtain ⟨x1, y1, r1, rfl, g⟩ := ab_bin_inv hs
    cases g
    exact lv_ior cx cb hd (k p e R s m args below meth c H locs cells slots ls mcT msT C hR hS hl b1 b2 b3 b4)
  | ishl =>
    have hn := Nat.eq_of_beq_eq_true (show Nat.beq n 1 = true from hk)
    subst hn
    obtain ⟨x1, y1, r1, rfl, g⟩ := ab_bin_inv hs
    cases g
    exact lv_ishl cx cb hd (k p e R s m args below meth c H locs cells slots ls mcT msT C hR hS hl b1 b2 b3 b4)
  | ishr =>
    have hn := Nat.eq_of_beq_eq_true (show Nat.beq n 1 = true from hk)
    subst hn
    obtain ⟨x1, y1, r1, rfl, g⟩ := ab_bin_inv hs
    cases g
    exact lv_ishr cx cb hd (k p e R s m args below meth c H locs cells slots ls mcT msT C hR hS hl b1 b2 b3 b4)
  | iushr =>
    have hn := Nat.eq_of_beq_eq_true (show Nat.beq n 1 = true from hk)
    subst hn
    obtain ⟨x1, y1, r1, rfl, g⟩ := ab_bin_inv hs
    cases g
    exact lv_iushr cx cb hd rfl (k p e R s m args below meth c H locs cells slots ls mcT msT C hR hS hl b1 b2 b3 b4)
  | idiv =>
    have hn := Nat.eq_of_beq_eq_true (show Nat.beq n 1 = true from hk)
    subst hn
    obtain ⟨x1, y1, r1, rfl, g⟩ := ab_binZ_inv hs
    cases g
    exact lv_idiv cx cb hd hp (k p e R s m args below meth c H locs cells slots ls mcT msT C hR hS hl b1 b2 b3 b4)
  | irem =>
    have hn := Nat.eq_of_beq_eq_true (show Nat.beq n 1 = true from hk)
    subst hn
    obtain ⟨x1, y1, r1, rfl, g⟩ := ab_binZ_inv hs
    cases g
    exact lv_irem cx cb hd hp (k p e R s m args below meth c H locs cells slots ls mcT msT C hR hS hl b1 b2 b3 b4)
  | ineg =>
    have hn := Nat.eq_of_beq_eq_true (show Nat.beq n 1 = true from hk)
    subst hn
    obtain ⟨x1, r1, rfl, g⟩ := ab_un_inv hs
    cases g
    exact lv_ineg cx cb hd (k p e R s m args below meth c H locs cells slots ls mcT msT C hR hS hl b1 b2 b3 b4)
  | i2l =>
    have hn := Nat.eq_of_beq_eq_true (show Nat.beq n 1 = true from hk)
    subst hn
    obtain ⟨x1, r1, rfl, g⟩ := ab_un_inv hs
    cases g
    exact lv_i2l cx cb hd rfl (k p e R s m args below meth c H locs cells slots ls mcT msT C hR hS hl b1 b2 b3 b4)
  | i2d =>
    have hn := Nat.eq_of_beq_eq_true (show Nat.beq n 1 = true from hk)
    subst hn
    obtain ⟨x1, r1, rfl, g⟩ := ab_un_inv hs
    cases g
    exact lv_i2d cx cb hd (k p e R s m args below meth c H locs cells slots ls mcT msT C hR hS hl b1 b2 b3 b4)
  | ladd =>
    have hn := Nat.eq_of_beq_eq_true (show Nat.beq n 1 = true from hk)
    subst hn
    obtain ⟨x1, y1, r1, rfl, g⟩ := ab_binL_inv hs
    cases g
    exact lv_ladd cx cb hd (k p e R s m args below meth c H locs cells slots ls mcT msT C hR hS hl b1 b2 b3 b4)
  | lsub =>
    have hn := Nat.eq_of_beq_eq_true (show Nat.beq n 1 = true from hk)
    subst hn
    obtain ⟨x1, y1, r1, rfl, g⟩ := ab_binL_inv hs
    cases g
    exact lv_lsub cx cb hd (k p e R s m args below meth c H locs cells slots ls mcT msT C hR hS hl b1 b2 b3 b4)
  | lmul =>
    have hn := Nat.eq_of_beq_eq_true (show Nat.beq n 1 = true from hk)
    subst hn
    obtain ⟨x1, y1, r1, rfl, g⟩ := ab_binL_inv hs
    cases g
    exact lv_lmul cx cb hd (k p e R s m args below meth c H locs cells slots ls mcT msT C hR hS hl b1 b2 b3 b4)
  | lor =>
    have hn := Nat.eq_of_beq_eq_true (show Nat.beq n 1 = true from hk)
    subst hn
    obtain ⟨x1, y1, r1, rfl, g⟩ := ab_binL_inv hs
    cases g
    exact lv_lor cx cb hd (k p e R s m args below meth c H locs cells slots ls mcT msT C hR hS hl b1 b2 b3 b4)
  | lcmp =>
    have hn := Nat.eq_of_beq_eq_true (show Nat.beq n 1 = true from hk)
    subst hn
    obtain ⟨x1, y1, r1, rfl, g⟩ := ab_binL_inv hs
    cases g
    exact W.lcmp cx cb hd (k p e R s m args below meth c H locs cells slots ls mcT msT C hR hS hl b1 b2 b3 b4)
  | dmul =>
    have hn := Nat.eq_of_beq_eq_true (show Nat.beq n 1 = true from hk)
    subst hn
    obtain ⟨x1, y1, r1, rfl, g⟩ := ab_binD_inv hs
    cases g
    exact lv_dmul cx cb hd hp (k p e R s m args below meth c H locs cells slots ls mcT msT C hR hS hl b1 b2 b3 b4)
  | dsub =>
    have hn := Nat.eq_of_beq_eq_true (show Nat.beq n 1 = true from hk)
    subst hn
    obtain ⟨x1, y1, r1, rfl, g⟩ := ab_binD_inv hs
    cases g
    exact lv_dsub cx cb hd hp (k p e R s m args below meth c H locs cells slots ls mcT msT C hR hS hl b1 b2 b3 b4)
  | ddiv =>
    have hn := Nat.eq_of_beq_eq_true (show Nat.beq n 1 = true from hk)
    subst hn
    obtain ⟨x1, y1, r1, rfl, g⟩ := ab_binD_inv hs
    cases g
    exact lv_ddiv cx cb hd hp (k p e R s m args below meth c H locs cells slots ls mcT msT C hR hS hl b1 b2 b3 b4)
  | lshl =>
    have hn := Nat.eq_of_beq_eq_true (show Nat.beq n 1 = true from hk)
    subst hn
    simp only [ab_step] at hs
    split at hs
    · cases hs
      exact lv_lshl cx cb hd rfl (k p e R s m args below meth c H locs cells slots ls mcT msT C hR hS hl b1 b2 b3 b4)
    · cases hs
  | dcmp op =>
    have hn := Nat.eq_of_beq_eq_true (show Nat.beq n 1 = true from hk)
    subst hn
    simp only [ab_step] at hs
    split at hs
    · cases hs
      exact lv_dcmp cx cb hd (k p e R s m args below meth c H locs cells slots ls mcT msT C hR hS hl b1 b2 b3 b4)
    · cases hs
  | d2l =>
    have hn := Nat.eq_of_beq_eq_true (show Nat.beq n 1 = true from hk)
    subst hn
    simp only [ab_step] at hs
    split at hs
    · cases hs
      exact lv_d2l cx cb hd (k p e R s m args below meth c H locs cells slots ls mcT msT C hR hS hl b1 b2 b3 b4)
    · cases hs
  | dup =>
    have hn := Nat.eq_of_beq_eq_true (show Nat.beq n 1 = true from hk)
    subst hn
    simp only [ab_step] at hs
    split at hs
    · rename_i v1 r1
      split at hs
      · rename_i hc1
        cases hs
        exact lv_dup cx cb hd ((ab_cat_v E v1).trans (Nat.eq_of_beq_eq_true hc1)) (k p e R s m args below meth c H locs cells slots ls mcT msT C hR hS hl b1 b2 b3 b4)
      · cases hs
    · cases hs
  | pop =>
    have hn := Nat.eq_of_beq_eq_true (show Nat.beq n 1 = true from hk)
    subst hn
    simp only [ab_step] at hs
    split at hs
    · rename_i v1 r1
      split at hs
      · rename_i hc1
        cases hs
        exact lv_pop cx cb hd ((ab_cat_v E v1).trans (Nat.eq_of_beq_eq_true hc1)) (k p e R s m args below meth c H locs cells slots ls mcT msT C hR hS hl b1 b2 b3 b4)
      · cases hs
    · cases hs
  | dup2 =>
    have hn := Nat.eq_of_beq_eq_true (show Nat.beq n 1 = true from hk)
    subst hn
    simp only [ab_step] at hs
    split at hs
    · rename_i v1 w1 r1
      split at hs
      · rename_i hc1 hc2
        cases hs
        exact lv_dup2_11 cx cb hd ((ab_cat_v E v1).trans (Nat.eq_of_beq_eq_true hc1)) ((ab_cat_v E w1).trans (Nat.eq_of_beq_eq_true hc2)) (k p e R s m args below meth c H locs cells slots ls mcT msT C hR hS hl b1 b2 b3 b4)
      · cases hs
    · cases hs
  | goto off =>
    simp only [ab_okI, Bool.and_eq_true, decide_eq_true_eq] at hk
    obtain ⟨hn, ht⟩ := hk
    have hn := Nat.eq_of_beq_eq_true hn
    subst hn
    cases hs
    exact lv_goto cx cb hd ht (k p e R s m args below meth c H locs cells slots ls mcT msT C hR hS hl b1 b2 b3 b4)
  | getfield idx =>
    simp only [ab_okI, Bool.and_eq_true] at hk
    obtain ⟨hn, hli⟩ := hk
    have hn := Nat.eq_of_beq_eq_true hn
    subst hn
    obtain ⟨Cn, T, N, hcl, hbN, hlw⟩ := ab_link_inv hli
    obtain ⟨hin, -, -, hty, hnm, hCT⟩ := ab_cls a Cn T N hcl
    obtain ⟨q, z, fs, w, rfl, hg, hw, he⟩ := ab_getf_inv hs
    cases he
    have q0 := ab_new_of hR hg
    have ha := hR.2.2.2.1 q _ q0 hg
    exact va_get cx cb cw hin cown cK (ab_P1 ha) 0 rfl hcl b hbN (cw _ hlw) (fun x hx => by rw [← hCT b hbN]; exact hx) (v := ab_v E w) (by rw [List.getElem?_map, hw]; rfl) hd (k p e R s m args below meth c H locs cells slots ls mcT msT C hR hS hl b1 b2 b3 b4)
  | putfield idx =>
    simp only [ab_okI, Bool.and_eq_true] at hk
    obtain ⟨⟨hn, hli⟩, hfi⟩ := hk
    have hn := Nat.eq_of_beq_eq_true hn
    subst hn
    obtain ⟨Cn, T, N, hcl, hbN, hlw⟩ := ab_link_inv hli
    obtain ⟨hin, -, -, hty, hnm, hCT⟩ := ab_cls a Cn T N hcl
    obtain ⟨w, q, z, fs, rfl, hg, hlb, hov, he⟩ := ab_putf_inv hs
    cases he
    have q0 := ab_new_of hR hg
    have ha := hR.2.2.2.1 q _ q0 hg
    have hov := ab_okv_ok (E := E) hov
    refine am_put cx cb cw hin (ab_ty a) hty hnm cown cK hS (ab_ge q0) ha hcl b hbN (hCT b hbN) (cw _ hlw) (fun hf => ?_) hov.1 hov.2 (by simpa using hlb) hd (fun H1 locs1 g1 g2 g3 g4 => k p e R s m args below meth c H1 locs1 cells slots ls mcT msT C (ab_R_set hR q0 hg (by show va_at _ _ (_, .inr (a, (fs.set b w).map (ab_v E))) H1; rw [List.map_set]; exact g1) g2 g3) g4 hl b1 b2 b3 b4)
    unfold ab_fin at hfi
    rw [hcl] at hfi
    dsimp only at hfi
    rw [if_pos hf, Bool.and_eq_true, decide_eq_true_eq, decide_eq_true_eq] at hfi
    exact ⟨cnm.trans hfi.1, hfi.2⟩
  | getstatic idx =>
    simp only [ab_okI, Bool.and_eq_true] at hk
    obtain ⟨hn, hst⟩ := hk
    have hn := Nat.eq_of_beq_eq_true hn
    subst hn
    cases hs
    split at hst
    · rename_i Cn f dd r hq
      simp only [Bool.and_eq_true, decide_eq_true_eq] at hst
      obtain ⟨⟨rfl, hra⟩, hlw⟩ := hst
      have hra := Nat.eq_of_beq_eq_true hra
      subst hra
      exact va_gets cx cb (cSF.1 _ (List.mem_of_getElem? hq)) hS cown (cw _ (ab_at_mem hlw)) (fun _ h => h) hd (k p e R s m args below meth c H locs cells slots ls mcT msT C hR hS hl b1 b2 b3 b4)
    · cases hst
  | iaload =>
    have hn := Nat.eq_of_beq_eq_true (show Nat.beq n 1 = true from hk)
    subst hn
    obtain ⟨i1, q, z, k1, f, rfl, hg, he⟩ := ab_ald_inv hs
    cases he
    have hp : vp_in i1 k1 := hp
    obtain ⟨cell, e1, e2, e3, e4, e6, e5⟩ := ab_R_arr hR hg (cK.2 0 _ rfl).1
    have hlt : i1.toNatClampNeg < k1 := Nat.not_le.mp fun q => hp (Or.inr q)
    exact W.iald (v := .int (f i1.toNatClampNeg)) cx cb e1 e2 e3 (fun q9 => q9.elim (fun q8 => hp (Or.inl q8)) (fun q8 => by omega)) (e5 _ hlt) rfl rfl hd (k p e R s m args below meth c H locs cells slots ls mcT msT C hR hS hl b1 b2 b3 b4)
  | iastore =>
    have hn := Nat.eq_of_beq_eq_true (show Nat.beq n 1 = true from hk)
    subst hn
    obtain ⟨x1, i1, q, z, k1, f, rfl, hg, q0, he⟩ := ab_ast_inv hs
    cases he
    have hp : vp_in i1 k1 := hp
    have ha := hR.2.2.2.1 q _ q0 hg
    exact am_iast cx cb hS (cK.2 0 _ rfl).1 (ab_ge q0) ha hp hd (fun H1 locs1 g1 g2 g3 g4 => k p e R s m args below meth c H1 locs1 cells slots ls mcT msT C (ab_R_set hR q0 hg g1 g2 g3) g4 hl b1 b2 b3 b4)
  | arraylength =>
    have hn := Nat.eq_of_beq_eq_true (show Nat.beq n 1 = true from hk)
    subst hn
    obtain ⟨q, z, k1, f, rfl, hg, he⟩ := ab_alen_inv hs
    cases he
    obtain ⟨cell, e1, e2, e3, e4, e6, e5⟩ := ab_R_arr hR hg (cK.2 0 _ rfl).1
    exact W.alen (n := Int32.ofNat k1) cx cb e1 e2 e6 rfl rfl hd (k p e R s m args below meth c H locs cells slots ls mcT msT C hR hS hl b1 b2 b3 b4)
  | invokestatic idx =>
    simp only [ab_okI, Bool.and_eq_true] at hk
    obtain ⟨⟨hn, hj⟩, hli⟩ := hk
    have hn := Nat.eq_of_beq_eq_true hn
    subst hn
    change ab_jdk pc 3 a L st h = _ at hs
    match a, hj, hli, hs with
    | 1, hj, hli, hs =>
      simp only [ab_jdk] at hs
      split at hs
      · split at hs
        · rename_i hcat
          cases hs
          have hcat := ab_cat8 (E := E) hcat
          exact va_mmax cx cb hmL cown (cw _ (ab_at_mem hli)) (cw _ (ab_ats_mem hj _ (by simp))) (cw _ (ab_ats_mem hj _ (by simp))) (cw _ (ab_ats_mem hj _ (by simp))) (by omega) (by omega) (by omega) (by omega) hd (k p e R s m args below meth c H locs cells slots ls mcT msT C hR hS hl b1 b2 b3 b4)
        · cases hs
      · cases hs
    | 2, hj, hli, hs =>
      simp only [ab_jdk] at hs
      split at hs
      · split at hs
        · rename_i hcat
          cases hs
          have hcat := ab_cat8 (E := E) hcat
          exact va_mmin cx cb hmL cown (cw _ (ab_at_mem hli)) (cw _ (ab_ats_mem hj _ (by simp))) (cw _ (ab_ats_mem hj _ (by simp))) (cw _ (ab_ats_mem hj _ (by simp))) (by omega) (by omega) (by omega) (by omega) hd (k p e R s m args below meth c H locs cells slots ls mcT msT C hR hS hl b1 b2 b3 b4)
        · cases hs
      · cases hs
    | 3, hj, hli, hs =>
      simp only [ab_jdk] at hs
      split at hs
      · split at hs
        · rename_i hcat
          cases hs
          have hcat := ab_cat8 (E := E) hcat
          exact va_mabs cx cb hmL cown (cw _ (ab_at_mem hli)) (cw _ (ab_ats_mem hj _ (by simp))) (cw _ (ab_ats_mem hj _ (by simp))) (cw _ (ab_ats_mem hj _ (by simp))) (by omega) (by omega) (by omega) (by omega) hd (k p e R s m args below meth c H locs cells slots ls mcT msT C hR hS hl b1 b2 b3 b4)
        · cases hs
      · cases hs
    | 4, hj, hli, hs =>
      simp only [ab_jdk] at hs
      split at hs
      · split at hs
        · rename_i hcat hg hg2 q0 q1
          cases hs
          have hcat := ab_cat8 (E := E) hcat
          obtain ⟨p1, p2, p3, p4, p5⟩ := hp
          have q0 := ab_ne0 q0
          have q1 := ab_ne0 q1
          have ha := hR.2.2.2.1 _ _ q0 hg
          have ha2 := hR.2.2.2.1 _ _ q1 hg2
          have hw9 : nativeFrameWords "java/lang/System" "arraycopy" 5 ≤ 20 := by decide
          exact am_copyi cx cb hmL cown (cw _ (ab_at_mem hli)) (cw _ (ab_ats_mem hj _ (by simp))) (cw _ (ab_ats_mem hj _ (by simp))) (cw _ (ab_ats_mem hj _ (by simp))) hS (cK.2 0 _ rfl).1 (ab_ge q1) ha ha2 p1 p2 p3 p4 p5 (by omega) (by omega) hd (fun H1 locs1 g1 g2 g3 g4 => k p e R s m args below meth c H1 locs1 cells slots ls mcT msT C (ab_R_set hR q1 hg2 g1 g2 g3) g4 hl b1 b2 b3 b4)
        · cases hs
      · cases hs
    | 0, hj, hli, hs => cases hj
    | 5, hj, hli, hs => cases hli
    | a + 6, hj, hli, hs => cases hj
  | invokespecial idx =>
    simp only [ab_okI, Bool.and_eq_true] at hk
    obtain ⟨⟨⟨hn, ha⟩, hj⟩, hli⟩ := hk
    have hn := Nat.eq_of_beq_eq_true hn
    subst hn
    simp only [ab_step] at hs
    split at hs
    · split at hs
      · rename_i hcat
        cases hs
        have hcat := ab_cat8 (E := E) hcat
        exact W.objInit cx cb cown (cw _ (ab_at_mem hli)) (cw _ (ab_ats_mem hj _ (by simp))) (cw _ (ab_ats_mem hj _ (by simp))) rfl hmL.symm rfl hd (by omega) (by show 2 * 0 + _ + 12 ≤ _; omega) (k p e R s m args below meth c H locs cells slots ls mcT msT C hR hS hl b1 b2 b3 b4)
      · cases hs
    · cases hs
  | _ => cases hs
/-- a straight stretch -/
theorem ab_run_ok {E : AE} {M : AM} {d : Nat} {o : AR0} {h' : AH} {mc ms : Nat} {pc' : Nat} {L' : AL} {st' : List Value} {h1 : AH} (k : AR E M d pc' L' st' h1 o h' mc ms) : ∀ {xs : List AI} (_ : ab_oks M xs = true) {pc : Nat} {L : AL} {st : List Value} {h : AH} {Ps : List Prop} (_ : ab_run xs pc L st h = some (Ps, (pc', L', st'), h1)) (_ : ab_all Ps), AR E M d pc L st h o h' mc ms
  | [], _, pc, L, st, h, Ps, hs, _ => by
    cases hs
    exact k
  | x :: xs, hx, pc, L, st, h, Ps, hs, hp => by
    unfold ab_oks at hx
    rw [List.all_cons, Bool.and_eq_true] at hx
    unfold ab_run at hs
    split at hs
    · rename_i hpc
      split at hs
      · rename_i P pc2 L2 st2 h2 hs1
        split at hs
        · rename_i Q r hs2
          cases hs
          obtain ⟨p1, p2⟩ := ab_all_app hp
          have hpc := Nat.eq_of_beq_eq_true hpc
          subst hpc
          exact ab_step_ok hx.1 hs1 p1 (ab_run_ok k hx.2 hs2 p2)
        · cases hs
      · cases hs
    · cases hs
end
section
section BR
variable {E : AE} {M : AM} {d pc : Nat} {L : AL} {st : List Value} {h : AH} {o : AR0} {h' : AH} {mc ms : Nat}
theorem AR.eq {off : Int} {tgt : Nat} {x : Int32} (hd : decode M.bytes pc = .ok (.ifCond .eq off, 3)) (ht : (pc : Int) + off = (tgt : Int)) (kt : x = 0 → AR E M d tgt L st h o h' mc ms) (kf : ¬ x = 0 → AR E M d (pc + 3) L st h o h' mc ms) : AR E M d pc L (.int x :: st) h o h' mc ms := by
  intro p e R s m args below meth c H locs cells slots ls mcT msT C hR hS hl b1 b2 b3 b4
  exact lv_if_eq C.1 C.2.1 hd ht (fun z => kt z p e R s m args below meth c H locs cells slots ls mcT msT C hR hS hl b1 b2 b3 b4) (fun z => kf z p e R s m args below meth c H locs cells slots ls mcT msT C hR hS hl b1 b2 b3 b4)
theorem AR.eqt {off : Int} {tgt : Nat} {x : Int32} (hd : decode M.bytes pc = .ok (.ifCond .eq off, 3)) (ht : (pc : Int) + off = (tgt : Int)) (hc : x = 0) (kt : AR E M d tgt L st h o h' mc ms) : AR E M d pc L (.int x :: st) h o h' mc ms := AR.eq hd ht (fun _ => kt) (fun z => absurd hc (by exact z))
theorem AR.eqf {off : Int} {tgt : Nat} {x : Int32} (hd : decode M.bytes pc = .ok (.ifCond .eq off, 3)) (ht : (pc : Int) + off = (tgt : Int)) (hc : ¬ x = 0) (kf : AR E M d (pc + 3) L st h o h' mc ms) : AR E M d pc L (.int x :: st) h o h' mc ms := AR.eq hd ht (fun z => absurd z (by exact hc)) (fun _ => kf)
theorem AR.eq2 {off : Int} {tgt : Nat} {x y : Int32} (hd : decode M.bytes pc = .ok (.if_icmp .eq off, 3)) (ht : (pc : Int) + off = (tgt : Int)) (kt : x = y → AR E M d tgt L st h o h' mc ms) (kf : ¬ x = y → AR E M d (pc + 3) L st h o h' mc ms) : AR E M d pc L (.int y :: .int x :: st) h o h' mc ms := by
  intro p e R s m args below meth c H locs cells slots ls mcT msT C hR hS hl b1 b2 b3 b4
  exact lv_icmp_eq C.1 C.2.1 hd ht (fun z => kt z p e R s m args below meth c H locs cells slots ls mcT msT C hR hS hl b1 b2 b3 b4) (fun z => kf z p e R s m args below meth c H locs cells slots ls mcT msT C hR hS hl b1 b2 b3 b4)
theorem AR.eq2t {off : Int} {tgt : Nat} {x y : Int32} (hd : decode M.bytes pc = .ok (.if_icmp .eq off, 3)) (ht : (pc : Int) + off = (tgt : Int)) (hc : x = y) (kt : AR E M d tgt L st h o h' mc ms) : AR E M d pc L (.int y :: .int x :: st) h o h' mc ms := AR.eq2 hd ht (fun _ => kt) (fun z => absurd hc (by exact z))
theorem AR.eq2f {off : Int} {tgt : Nat} {x y : Int32} (hd : decode M.bytes pc = .ok (.if_icmp .eq off, 3)) (ht : (pc : Int) + off = (tgt : Int)) (hc : ¬ x = y) (kf : AR E M d (pc + 3) L st h o h' mc ms) : AR E M d pc L (.int y :: .int x :: st) h o h' mc ms := AR.eq2 hd ht (fun z => absurd z (by exact hc)) (fun _ => kf)
theorem AR.ne {off : Int} {tgt : Nat} {x : Int32} (hd : decode M.bytes pc = .ok (.ifCond .ne off, 3)) (ht : (pc : Int) + off = (tgt : Int)) (kt : ¬ x = 0 → AR E M d tgt L st h o h' mc ms) (kf : x = 0 → AR E M d (pc + 3) L st h o h' mc ms) : AR E M d pc L (.int x :: st) h o h' mc ms := by
  intro p e R s m args below meth c H locs cells slots ls mcT msT C hR hS hl b1 b2 b3 b4
  exact lv_if_ne C.1 C.2.1 hd ht (fun z => kt z p e R s m args below meth c H locs cells slots ls mcT msT C hR hS hl b1 b2 b3 b4) (fun z => kf z p e R s m args below meth c H locs cells slots ls mcT msT C hR hS hl b1 b2 b3 b4)
theorem AR.net {off : Int} {tgt : Nat} {x : Int32} (hd : decode M.bytes pc = .ok (.ifCond .ne off, 3)) (ht : (pc : Int) + off = (tgt : Int)) (hc : ¬ x = 0) (kt : AR E M d tgt L st h o h' mc ms) : AR E M d pc L (.int x :: st) h o h' mc ms := AR.ne hd ht (fun _ => kt) (fun z => absurd hc (by exact fun q => q z))
theorem AR.nef {off : Int} {tgt : Nat} {x : Int32} (hd : decode M.bytes pc = .ok (.ifCond .ne off, 3)) (ht : (pc : Int) + off = (tgt : Int)) (hc : x = 0) (kf : AR E M d (pc + 3) L st h o h' mc ms) : AR E M d pc L (.int x :: st) h o h' mc ms := AR.ne hd ht (fun z => absurd z (by exact fun q => q hc)) (fun _ => kf)
theorem AR.ne2 {off : Int} {tgt : Nat} {x y : Int32} (hd : decode M.bytes pc = .ok (.if_icmp .ne off, 3)) (ht : (pc : Int) + off = (tgt : Int)) (kt : ¬ x = y → AR E M d tgt L st h o h' mc ms) (kf : x = y → AR E M d (pc + 3) L st h o h' mc ms) : AR E M d pc L (.int y :: .int x :: st) h o h' mc ms := by
  intro p e R s m args below meth c H locs cells slots ls mcT msT C hR hS hl b1 b2 b3 b4
  exact lv_icmp_ne C.1 C.2.1 hd ht (fun z => kt z p e R s m args below meth c H locs cells slots ls mcT msT C hR hS hl b1 b2 b3 b4) (fun z => kf z p e R s m args below meth c H locs cells slots ls mcT msT C hR hS hl b1 b2 b3 b4)
theorem AR.ne2t {off : Int} {tgt : Nat} {x y : Int32} (hd : decode M.bytes pc = .ok (.if_icmp .ne off, 3)) (ht : (pc : Int) + off = (tgt : Int)) (hc : ¬ x = y) (kt : AR E M d tgt L st h o h' mc ms) : AR E M d pc L (.int y :: .int x :: st) h o h' mc ms := AR.ne2 hd ht (fun _ => kt) (fun z => absurd hc (by exact fun q => q z))
theorem AR.ne2f {off : Int} {tgt : Nat} {x y : Int32} (hd : decode M.bytes pc = .ok (.if_icmp .ne off, 3)) (ht : (pc : Int) + off = (tgt : Int)) (hc : x = y) (kf : AR E M d (pc + 3) L st h o h' mc ms) : AR E M d pc L (.int y :: .int x :: st) h o h' mc ms := AR.ne2 hd ht (fun z => absurd z (by exact fun q => q hc)) (fun _ => kf)
theorem AR.lt {off : Int} {tgt : Nat} {x : Int32} (hd : decode M.bytes pc = .ok (.ifCond .lt off, 3)) (ht : (pc : Int) + off = (tgt : Int)) (kt : x < 0 → AR E M d tgt L st h o h' mc ms) (kf : ¬ x < 0 → AR E M d (pc + 3) L st h o h' mc ms) : AR E M d pc L (.int x :: st) h o h' mc ms := by
  intro p e R s m args below meth c H locs cells slots ls mcT msT C hR hS hl b1 b2 b3 b4
  exact lv_if_lt C.1 C.2.1 hd ht (fun z => kt z p e R s m args below meth c H locs cells slots ls mcT msT C hR hS hl b1 b2 b3 b4) (fun z => kf z p e R s m args below meth c H locs cells slots ls mcT msT C hR hS hl b1 b2 b3 b4)
theorem AR.ltt {off : Int} {tgt : Nat} {x : Int32} (hd : decode M.bytes pc = .ok (.ifCond .lt off, 3)) (ht : (pc : Int) + off = (tgt : Int)) (hc : x < 0) (kt : AR E M d tgt L st h o h' mc ms) : AR E M d pc L (.int x :: st) h o h' mc ms := AR.lt hd ht (fun _ => kt) (fun z => absurd hc (by exact z))
theorem AR.ltf {off : Int} {tgt : Nat} {x : Int32} (hd : decode M.bytes pc = .ok (.ifCond .lt off, 3)) (ht : (pc : Int) + off = (tgt : Int)) (hc : ¬ x < 0) (kf : AR E M d (pc + 3) L st h o h' mc ms) : AR E M d pc L (.int x :: st) h o h' mc ms := AR.lt hd ht (fun z => absurd z (by exact hc)) (fun _ => kf)
theorem AR.lt2 {off : Int} {tgt : Nat} {x y : Int32} (hd : decode M.bytes pc = .ok (.if_icmp .lt off, 3)) (ht : (pc : Int) + off = (tgt : Int)) (kt : x < y → AR E M d tgt L st h o h' mc ms) (kf : ¬ x < y → AR E M d (pc + 3) L st h o h' mc ms) : AR E M d pc L (.int y :: .int x :: st) h o h' mc ms := by
  intro p e R s m args below meth c H locs cells slots ls mcT msT C hR hS hl b1 b2 b3 b4
  exact lv_icmp_lt C.1 C.2.1 hd ht (fun z => kt z p e R s m args below meth c H locs cells slots ls mcT msT C hR hS hl b1 b2 b3 b4) (fun z => kf z p e R s m args below meth c H locs cells slots ls mcT msT C hR hS hl b1 b2 b3 b4)
theorem AR.lt2t {off : Int} {tgt : Nat} {x y : Int32} (hd : decode M.bytes pc = .ok (.if_icmp .lt off, 3)) (ht : (pc : Int) + off = (tgt : Int)) (hc : x < y) (kt : AR E M d tgt L st h o h' mc ms) : AR E M d pc L (.int y :: .int x :: st) h o h' mc ms := AR.lt2 hd ht (fun _ => kt) (fun z => absurd hc (by exact z))
theorem AR.lt2f {off : Int} {tgt : Nat} {x y : Int32} (hd : decode M.bytes pc = .ok (.if_icmp .lt off, 3)) (ht : (pc : Int) + off = (tgt : Int)) (hc : ¬ x < y) (kf : AR E M d (pc + 3) L st h o h' mc ms) : AR E M d pc L (.int y :: .int x :: st) h o h' mc ms := AR.lt2 hd ht (fun z => absurd z (by exact hc)) (fun _ => kf)
theorem AR.ge {off : Int} {tgt : Nat} {x : Int32} (hd : decode M.bytes pc = .ok (.ifCond .ge off, 3)) (ht : (pc : Int) + off = (tgt : Int)) (kt : 0 ≤ x → AR E M d tgt L st h o h' mc ms) (kf : ¬ 0 ≤ x → AR E M d (pc + 3) L st h o h' mc ms) : AR E M d pc L (.int x :: st) h o h' mc ms := by
  intro p e R s m args below meth c H locs cells slots ls mcT msT C hR hS hl b1 b2 b3 b4
  exact lv_if_ge C.1 C.2.1 hd ht (fun z => kt z p e R s m args below meth c H locs cells slots ls mcT msT C hR hS hl b1 b2 b3 b4) (fun z => kf z p e R s m args below meth c H locs cells slots ls mcT msT C hR hS hl b1 b2 b3 b4)
theorem AR.get {off : Int} {tgt : Nat} {x : Int32} (hd : decode M.bytes pc = .ok (.ifCond .ge off, 3)) (ht : (pc : Int) + off = (tgt : Int)) (hc : 0 ≤ x) (kt : AR E M d tgt L st h o h' mc ms) : AR E M d pc L (.int x :: st) h o h' mc ms := AR.ge hd ht (fun _ => kt) (fun z => absurd hc (by exact z))
theorem AR.gef {off : Int} {tgt : Nat} {x : Int32} (hd : decode M.bytes pc = .ok (.ifCond .ge off, 3)) (ht : (pc : Int) + off = (tgt : Int)) (hc : ¬ 0 ≤ x) (kf : AR E M d (pc + 3) L st h o h' mc ms) : AR E M d pc L (.int x :: st) h o h' mc ms := AR.ge hd ht (fun z => absurd z (by exact hc)) (fun _ => kf)
theorem AR.ge2 {off : Int} {tgt : Nat} {x y : Int32} (hd : decode M.bytes pc = .ok (.if_icmp .ge off, 3)) (ht : (pc : Int) + off = (tgt : Int)) (kt : y ≤ x → AR E M d tgt L st h o h' mc ms) (kf : ¬ y ≤ x → AR E M d (pc + 3) L st h o h' mc ms) : AR E M d pc L (.int y :: .int x :: st) h o h' mc ms := by
  intro p e R s m args below meth c H locs cells slots ls mcT msT C hR hS hl b1 b2 b3 b4
  exact lv_icmp_ge C.1 C.2.1 hd ht (fun z => kt z p e R s m args below meth c H locs cells slots ls mcT msT C hR hS hl b1 b2 b3 b4) (fun z => kf z p e R s m args below meth c H locs cells slots ls mcT msT C hR hS hl b1 b2 b3 b4)
theorem AR.ge2t {off : Int} {tgt : Nat} {x y : Int32} (hd : decode M.bytes pc = .ok (.if_icmp .ge off, 3)) (ht : (pc : Int) + off = (tgt : Int)) (hc : y ≤ x) (kt : AR E M d tgt L st h o h' mc ms) : AR E M d pc L (.int y :: .int x :: st) h o h' mc ms := AR.ge2 hd ht (fun _ => kt) (fun z => absurd hc (by exact z))
theorem AR.ge2f {off : Int} {tgt : Nat} {x y : Int32} (hd : decode M.bytes pc = .ok (.if_icmp .ge off, 3)) (ht : (pc : Int) + off = (tgt : Int)) (hc : ¬ y ≤ x) (kf : AR E M d (pc + 3) L st h o h' mc ms) : AR E M d pc L (.int y :: .int x :: st) h o h' mc ms := AR.ge2 hd ht (fun z => absurd z (by exact hc)) (fun _ => kf)
theorem AR.gt {off : Int} {tgt : Nat} {x : Int32} (hd : decode M.bytes pc = .ok (.ifCond .gt off, 3)) (ht : (pc : Int) + off = (tgt : Int)) (kt : 0 < x → AR E M d tgt L st h o h' mc ms) (kf : ¬ 0 < x → AR E M d (pc + 3) L st h o h' mc ms) : AR E M d pc L (.int x :: st) h o h' mc ms := by
  intro p e R s m args below meth c H locs cells slots ls mcT msT C hR hS hl b1 b2 b3 b4
  exact lv_if_gt C.1 C.2.1 hd ht (fun z => kt z p e R s m args below meth c H locs cells slots ls mcT msT C hR hS hl b1 b2 b3 b4) (fun z => kf z p e R s m args below meth c H locs cells slots ls mcT msT C hR hS hl b1 b2 b3 b4)
theorem AR.gtt {off : Int} {tgt : Nat} {x : Int32} (hd : decode M.bytes pc = .ok (.ifCond .gt off, 3)) (ht : (pc : Int) + off = (tgt : Int)) (hc : 0 < x) (kt : AR E M d tgt L st h o h' mc ms) : AR E M d pc L (.int x :: st) h o h' mc ms := AR.gt hd ht (fun _ => kt) (fun z => absurd hc (by exact z))
theorem AR.gtf {off : Int} {tgt : Nat} {x : Int32} (hd : decode M.bytes pc = .ok (.ifCond .gt off, 3)) (ht : (pc : Int) + off = (tgt : Int)) (hc : ¬ 0 < x) (kf : AR E M d (pc + 3) L st h o h' mc ms) : AR E M d pc L (.int x :: st) h o h' mc ms := AR.gt hd ht (fun z => absurd z (by exact hc)) (fun _ => kf)
theorem AR.gt2 {off : Int} {tgt : Nat} {x y : Int32} (hd : decode M.bytes pc = .ok (.if_icmp .gt off, 3)) (ht : (pc : Int) + off = (tgt : Int)) (kt : y < x → AR E M d tgt L st h o h' mc ms) (kf : ¬ y < x → AR E M d (pc + 3) L st h o h' mc ms) : AR E M d pc L (.int y :: .int x :: st) h o h' mc ms := by
  intro p e R s m args below meth c H locs cells slots ls mcT msT C hR hS hl b1 b2 b3 b4
  exact lv_icmp_gt C.1 C.2.1 hd ht (fun z => kt z p e R s m args below meth c H locs cells slots ls mcT msT C hR hS hl b1 b2 b3 b4) (fun z => kf z p e R s m args below meth c H locs cells slots ls mcT msT C hR hS hl b1 b2 b3 b4)
theorem AR.gt2t {off : Int} {tgt : Nat} {x y : Int32} (hd : decode M.bytes pc = .ok (.if_icmp .gt off, 3)) (ht : (pc : Int) + off = (tgt : Int)) (hc : y < x) (kt : AR E M d tgt L st h o h' mc ms) : AR E M d pc L (.int y :: .int x :: st) h o h' mc ms := AR.gt2 hd ht (fun _ => kt) (fun z => absurd hc (by exact z))
theorem AR.gt2f {off : Int} {tgt : Nat} {x y : Int32} (hd : decode M.bytes pc = .ok (.if_icmp .gt off, 3)) (ht : (pc : Int) + off = (tgt : Int)) (hc : ¬ y < x) (kf : AR E M d (pc + 3) L st h o h' mc ms) : AR E M d pc L (.int y :: .int x :: st) h o h' mc ms := AR.gt2 hd ht (fun z => absurd z (by exact hc)) (fun _ => kf)
theorem AR.le {off : Int} {tgt : Nat} {x : Int32} (hd : decode M.bytes pc = .ok (.ifCond .le off, 3)) (ht : (pc : Int) + off = (tgt : Int)) (kt : x ≤ 0 → AR E M d tgt L st h o h' mc ms) (kf : ¬ x ≤ 0 → AR E M d (pc + 3) L st h o h' mc ms) : AR E M d pc L (.int x :: st) h o h' mc ms := by
  intro p e R s m args below meth c H locs cells slots ls mcT msT C hR hS hl b1 b2 b3 b4
  exact lv_if_le C.1 C.2.1 hd ht (fun z => kt z p e R s m args below meth c H locs cells slots ls mcT msT C hR hS hl b1 b2 b3 b4) (fun z => kf z p e R s m args below meth c H locs cells slots ls mcT msT C hR hS hl b1 b2 b3 b4)
theorem AR.let {off : Int} {tgt : Nat} {x : Int32} (hd : decode M.bytes pc = .ok (.ifCond .le off, 3)) (ht : (pc : Int) + off = (tgt : Int)) (hc : x ≤ 0) (kt : AR E M d tgt L st h o h' mc ms) : AR E M d pc L (.int x :: st) h o h' mc ms := AR.le hd ht (fun _ => kt) (fun z => absurd hc (by exact z))
theorem AR.lef {off : Int} {tgt : Nat} {x : Int32} (hd : decode M.bytes pc = .ok (.ifCond .le off, 3)) (ht : (pc : Int) + off = (tgt : Int)) (hc : ¬ x ≤ 0) (kf : AR E M d (pc + 3) L st h o h' mc ms) : AR E M d pc L (.int x :: st) h o h' mc ms := AR.le hd ht (fun z => absurd z (by exact hc)) (fun _ => kf)
theorem AR.le2 {off : Int} {tgt : Nat} {x y : Int32} (hd : decode M.bytes pc = .ok (.if_icmp .le off, 3)) (ht : (pc : Int) + off = (tgt : Int)) (kt : x ≤ y → AR E M d tgt L st h o h' mc ms) (kf : ¬ x ≤ y → AR E M d (pc + 3) L st h o h' mc ms) : AR E M d pc L (.int y :: .int x :: st) h o h' mc ms := by
  intro p e R s m args below meth c H locs cells slots ls mcT msT C hR hS hl b1 b2 b3 b4
  exact lv_icmp_le C.1 C.2.1 hd ht (fun z => kt z p e R s m args below meth c H locs cells slots ls mcT msT C hR hS hl b1 b2 b3 b4) (fun z => kf z p e R s m args below meth c H locs cells slots ls mcT msT C hR hS hl b1 b2 b3 b4)
theorem AR.le2t {off : Int} {tgt : Nat} {x y : Int32} (hd : decode M.bytes pc = .ok (.if_icmp .le off, 3)) (ht : (pc : Int) + off = (tgt : Int)) (hc : x ≤ y) (kt : AR E M d tgt L st h o h' mc ms) : AR E M d pc L (.int y :: .int x :: st) h o h' mc ms := AR.le2 hd ht (fun _ => kt) (fun z => absurd hc (by exact z))
theorem AR.le2f {off : Int} {tgt : Nat} {x y : Int32} (hd : decode M.bytes pc = .ok (.if_icmp .le off, 3)) (ht : (pc : Int) + off = (tgt : Int)) (hc : ¬ x ≤ y) (kf : AR E M d (pc + 3) L st h o h' mc ms) : AR E M d pc L (.int y :: .int x :: st) h o h' mc ms := AR.le2 hd ht (fun z => absurd z (by exact hc)) (fun _ => kf)
theorem AR.tsw {dflt lo hi : Int} {offs : Array Int} {len : Nat} {x : Int32} {off : Int} {tgt : Nat} (hd : decode M.bytes pc = .ok (.tableswitch dflt lo hi offs, len)) (j : Nat) (hx : x.toInt = lo + j) (hj : j < (hi + 1 - lo).toNat) (ho : offs[j]? = some off) (ht : (pc : Int) + off = (tgt : Int)) (k : AR E M d tgt L st h o h' mc ms) : AR E M d pc L (.int x :: st) h o h' mc ms := by
  intro p e R s m args below meth c H locs cells slots ls mcT msT C hR hS hl b1 b2 b3 b4
  have e9 : (x.toInt - lo).toNat = j := by omega
  exact lv_tableIn C.1 C.2.1 hd (by omega) (by omega) (by rw [e9]; exact ho) ht (k p e R s m args below meth c H locs cells slots ls mcT msT C hR hS hl b1 b2 b3 b4)
theorem AR.tswd {dflt lo hi : Int} {offs : Array Int} {len : Nat} {x : Int32} {tgt : Nat} (hd : decode M.bytes pc = .ok (.tableswitch dflt lo hi offs, len)) (hx : x.toInt < lo ∨ hi < x.toInt) (ht : (pc : Int) + dflt = (tgt : Int)) (k : AR E M d tgt L st h o h' mc ms) : AR E M d pc L (.int x :: st) h o h' mc ms := by
  intro p e R s m args below meth c H locs cells slots ls mcT msT C hR hS hl b1 b2 b3 b4
  exact lv_tableOut C.1 C.2.1 hd hx ht (k p e R s m args below meth c H locs cells slots ls mcT msT C hR hS hl b1 b2 b3 b4)
theorem AR.lsw {dflt : Int} {ps : Array (Int × Int)} {len : Nat} {x : Int32} {off : Int} {tgt : Nat} (hd : decode M.bytes pc = .ok (.lookupswitch dflt ps, len)) (hp : (ps.toList.zip (ps.toList.drop 1)).all (fun (a, next) => a.1 < next.1) = true) (ho : Op.lookupswitch.offset ps.toList dflt x.toInt = off) (ht : (pc : Int) + off = (tgt : Int)) (k : AR E M d tgt L st h o h' mc ms) : AR E M d pc L (.int x :: st) h o h' mc ms := by
  intro p e R s m args below meth c H locs cells slots ls mcT msT C hR hS hl b1 b2 b3 b4
  exact lv_lookup C.1 C.2.1 hd hp ho ht (k p e R s m args below meth c H locs cells slots ls mcT msT C hR hS hl b1 b2 b3 b4)
theorem AR.reti {v : Int32} (hd : decode M.bytes pc = .ok (.ireturn, 1)) (hr : M.ret = some .int) : AR E M d pc L [.int v] h (.inl (some (.int v))) h mc ms := by
  intro p e R s m args below meth c H locs cells slots ls mcT msT C hR hS hl b1 b2 b3 b4
  refine W.widen (k := mcT) (n := msT) (by omega) (by omega) ?_
  exact vx_ret (W.iret C.1 C.2.1 (C.2.2.2.1.trans hr) (fun t ht hW => ⟨some (.int v), rfl, rfl, by rw [ht]; exact ab_R.moved hW.alike hR, hS.F ht⟩) hS.2.2 hd C.2.2.2.2.2.2.1)
theorem AR.retz {v : Int32} (hd : decode M.bytes pc = .ok (.ireturn, 1)) (hr : M.ret = some .boolean) (hv : v = 0 ∨ v = 1) : AR E M d pc L [.int v] h (.inl (some (.int v))) h mc ms := by
  intro p e R s m args below meth c H locs cells slots ls mcT msT C hR hS hl b1 b2 b3 b4
  refine W.widen (k := mcT) (n := msT) (by omega) (by omega) ?_
  exact vx_ret (W.zret C.1 C.2.1 (C.2.2.2.1.trans hr) (by rcases hv with rfl | rfl <;> rfl) (fun t ht hW => ⟨some (.int v), rfl, rfl, by rw [ht]; exact ab_R.moved hW.alike hR, hS.F ht⟩) hS.2.2 hd C.2.2.2.2.2.2.1)
theorem AR.retl {v : Int64} (hd : decode M.bytes pc = .ok (.lreturn, 1)) (hr : M.ret = some .long) : AR E M d pc L [.long v] h (.inl (some (.long v))) h mc ms := by
  intro p e R s m args below meth c H locs cells slots ls mcT msT C hR hS hl b1 b2 b3 b4
  refine W.widen (k := mcT) (n := msT) (by omega) (by omega) ?_
  exact vx_ret (W.lret C.1 C.2.1 (C.2.2.2.1.trans hr) (fun t ht hW => ⟨some (.long v), rfl, rfl, by rw [ht]; exact ab_R.moved hW.alike hR, hS.F ht⟩) hS.2.2 hd C.2.2.2.2.2.2.1)
theorem AR.retd {v : UInt64} (hd : decode M.bytes pc = .ok (.dreturn, 1)) (hr : M.ret = some .double) : AR E M d pc L [.double v] h (.inl (some (.double v))) h mc ms := by
  intro p e R s m args below meth c H locs cells slots ls mcT msT C hR hS hl b1 b2 b3 b4
  refine W.widen (k := mcT) (n := msT) (by omega) (by omega) ?_
  exact vx_ret (W.dret C.1 C.2.1 (C.2.2.2.1.trans hr) (fun t ht hW => ⟨some (.double v), rfl, rfl, by rw [ht]; exact ab_R.moved hW.alike hR, hS.F ht⟩) hS.2.2 hd C.2.2.2.2.2.2.1)
theorem AR.retv (hd : decode M.bytes pc = .ok (.return_, 1)) (hr : M.ret = none) : AR E M d pc L [] h (.inl (none)) h mc ms := by
  intro p e R s m args below meth c H locs cells slots ls mcT msT C hR hS hl b1 b2 b3 b4
  refine W.widen (k := mcT) (n := msT) (by omega) (by omega) ?_
  exact vx_ret (W.vret C.1 C.2.1 (C.2.2.2.1.trans hr) (fun t ht hW => ⟨none, rfl, rfl, by rw [ht]; exact ab_R.moved hW.alike hR, hS.F ht⟩) hS.2.2 hd C.2.2.2.2.2.2.1)
end BR
/-- the locals with which a method begins -/
def ab_sl : List Value → AL
  | [] => []
  | .long z :: vs => some (.long z) :: none :: ab_sl vs
  | .double z :: vs => some (.double z) :: none :: ab_sl vs
  | v :: vs => some v :: ab_sl vs
def ab_ent (av : List Value) (n : Nat) : AL := ab_sl av ++ List.replicate (n - (ab_sl av).length) none
theorem ab_sl_len (E : AE) : ∀ av : List Value, (lg_sl (av.map (ab_v E))).length = (ab_sl av).length
  | [] => rfl
  | v :: vs => by
    have ih := ab_sl_len E vs
    unfold lg_sl at ih ⊢
    rw [List.map_cons, List.flatMap_cons, List.length_append, ih, ab_cat_v]
    cases v <;> simp [ab_sl, Value.category] <;> omega
theorem ab_sl_args (E : AE) : ∀ (av : List Value) (k i : Nat) (v : Value), (ab_sl av)[i]? = some (some v) → (k + i, ab_v E v) ∈ lv_args k (av.map (ab_v E))
  | [], k, i, v, h => by simp [ab_sl] at h
  | x :: vs, k, i, v, h => by
    rw [List.map_cons]
    unfold lv_args
    rw [ab_cat_v]
    have two : ∀ (y : Value) (r : AL), r = some y :: none :: ab_sl vs → y.category = 2 → r[i]? = some (some v) → (k + i, ab_v E v) ∈ (k, ab_v E y) :: lv_args (if y.category = 2 then k + 2 else k + 1) (vs.map (ab_v E)) := by
      intro y r hr hc hi
      subst hr
      rw [if_pos hc]
      match i, hi with
      | 0, hi => cases hi; exact List.mem_cons_self
      | 1, hi => cases hi
      | i + 2, hi =>
        have := ab_sl_args E vs (k + 2) i v hi
        rw [show k + (i + 2) = k + 2 + i by omega]
        exact List.mem_cons_of_mem _ this
    have one : ∀ (y : Value) (r : AL), r = some y :: ab_sl vs → ¬ y.category = 2 → r[i]? = some (some v) → (k + i, ab_v E v) ∈ (k, ab_v E y) :: lv_args (if y.category = 2 then k + 2 else k + 1) (vs.map (ab_v E)) := by
      intro y r hr hc hi
      subst hr
      rw [if_neg hc]
      match i, hi with
      | 0, hi => cases hi; exact List.mem_cons_self
      | i + 1, hi =>
        have := ab_sl_args E vs (k + 1) i v hi
        rw [show k + (i + 1) = k + 1 + i by omega]
        exact List.mem_cons_of_mem _ this
    cases x with
    | long z => exact two (.long z) _ rfl rfl h
    | double z => exact two (.double z) _ rfl rfl h
    | int z => exact one (.int z) _ rfl (fun q => by cases q) h
    | float z => exact one (.float z) _ rfl (fun q => by cases q) h
    | null => exact one .null _ rfl (fun q => by cases q) h
    | ref z => exact one (.ref z) _ rfl (fun q => by cases q) h
    | retAddr z => exact one (.retAddr z) _ rfl (fun q => by cases q) h
theorem ab_entry (E : AE) (av : List Value) {n : Nat} (hn : (ab_sl av).length ≤ n) : lv_has ((lg_sl (av.map (ab_v E)) ++ List.replicate (n - (lg_sl (av.map (ab_v E))).length) Slot.unset).toArray) n (ab_lvs E (ab_ent av n)) := by
  refine ab_has_of (lv_entry (av.map (ab_v E)) (by rw [ab_sl_len]; exact hn)) fun q hq => ?_
  obtain ⟨v, h1, h2⟩ := ab_lvs_mem.mp hq
  unfold ab_ent at h1
  by_cases hi : q.1 < (ab_sl av).length
  · rw [List.getElem?_append_left hi] at h1
    have := ab_sl_args E av 0 q.1 v h1
    rw [Nat.zero_add, ← h2] at this
    exact this
  · rw [List.getElem?_append_right (by omega), List.getElem?_replicate] at h1
    split at h1 <;> cases h1
/-! contracts -/
def ab_rm (d mc ms : Nat) : Room := { frames := d + 8, cells := mc, slots := ms, locals := 40 * d + 200 }
def ab_cond (M : AM) : Cond := match M.hh with
  | [] => .code M.y M.bytes M.maxL M.ret
  | q :: r => .codeWith M.y M.bytes M.maxL M.ret (q :: r)
abbrev ab_ws (M : AM) : List Cond := ab_cond M :: ab_W
def ab_Pc (E : AE) (av : List Value) (h : AH) : Array Value → State → Prop := va_Pc (av.map (ab_v E)) (fun U => ab_R E h U U.heap ∧ va_K E.D vwCl (ab_tys E) U ∧ ab_SF E U ∧ U.vm.findClass "[I" = some E.cI ∧ U.vm.findClass "[I" = some E.cI)
/-- the method M, called with av over the heap h, comes to its end o, h' -/
def CT (E : AE) (M : AM) (d : Nat) (av : List Value) (h : AH) (o : AR0) (h' : AH) (mc ms : Nat) : Prop := vx_Met E.l M.y (ab_ws M) (ab_rm d mc ms) (ab_Pc E av h) (ab_Qc E o h') (ab_Xc E o h') mc ms (ab_A E)
def ab_fit (M : AM) (av : List Value) : Bool := plainName M.y.cls && Nat.ble (ab_sl av).length M.maxL
set_option maxHeartbeats 1000000 in
theorem CT.of {E : AE} {M : AM} {d : Nat} {av : List Value} {h : AH} {o : AR0} {h' : AH} {mc ms : Nat} {L : AL} (hf : ab_fit M av = true) (hL : ab_ent av M.maxL = L) (k : AR E M d 0 L [] h o h' mc ms) : CT E M d av h o h' mc ms := by
  unfold ab_fit at hf
  rw [Bool.and_eq_true] at hf
  obtain ⟨hy, hn⟩ := hf
  have hn := Nat.le_of_ble_eq_true hn
  subst hL
  have body : ∀ (p : Program) (e : Env) (s : State) (m : MethodId) (args : Array Value) (below : List Frame) (meth : Method) (c : Code) (s₁ : State), BodyLoose p E.l M.y (headSpec (ab_ws M) (ab_rm d mc ms)) M.bytes M.maxL M.ret e s m args below meth c s₁ → c.maxLocals = M.maxL → c.exceptionTable.toList = tableOf M.hh → ab_Pc E av h args s →
      W p E.l e (headSpec (ab_ws M) (ab_rm d mc ms)).room s m args below meth c s.heap [] 0 0 (vx_MQ below (ab_Qc E o h') (ab_Xc E o h') args s mc ms (ab_A E)) (entryFrame m args M.maxL) := by
    intro p e s m args below meth c s₁ B hml ht hv
    obtain ⟨rfl, hR, hK, hF, hI, hJ⟩ := hv
    have hts := atoms_spec (ws := ab_ws M) B.pre
    have hown : s.vm.findClass M.own = some m.cls := findClass_of_methodNamed B.named
    have hnm : meth.name = M.y.name := (name_of_methodNamed B.named B.method).1
    rw [lg_entry_eq]
    exact k p e _ s m _ below meth c s.heap [] 0 0 _ mc ms ⟨B.exec, B.bytes, hml, B.returns, hown, fun w hw => hts w (List.mem_cons_of_mem _ hw), B.notSynchronized, hnm, ht, hK, hF, Nat.le_refl _, Nat.le_refl _, hI, hJ⟩ hR va_S.rf (ab_entry E av hn) (by omega) (by omega) (Nat.le_refl _) (Nat.le_refl _)
  unfold CT
  cases hh : M.hh with
  | nil =>
    refine vx_ofW (cc := M.bytes) (maxL := M.maxL) (ret := M.ret) (ws' := ab_W) hy (by unfold ab_ws ab_cond; rw [hh]) ?_
    intro p e s m args below meth c s₁ B hml ht hv
    refine body p e s m args below meth c s₁ B hml ?_ hv
    rw [hh]
    cases hx : c.exceptionTable.toList with
    | nil => rfl
    | cons x r => exact (ht x (by rw [hx]; exact List.mem_cons_self)).elim
  | cons q r =>
    refine vx_ofWH (cc := M.bytes) (maxL := M.maxL) (ret := M.ret) (hh := q :: r) (ws' := ab_W) hy (by unfold ab_ws ab_cond; rw [hh]) ?_
    intro p e s m args below meth c s₁ B hml hv
    refine body p e s m args below meth c s₁ B hml ?_ hv
    rw [hh]
    refine vx_table (x := M.y) B (bytes := M.bytes) (maxL' := M.maxL) (ret' := M.ret) (atoms_spec (ws := ab_ws M) B.pre _ ?_)
    unfold ab_ws ab_cond
    rw [hh]
    exact List.mem_cons_self
theorem ab_blind (E : AE) (av : List Value) (h : AH) : FrameBlind (ab_Pc E av h) := by
  intro a U g mk q
  obtain ⟨q0, q1, q2, q3, q4, q5⟩ := q
  have hal : U.vm.Alike (U.calling g mk a).vm := Vm.Alike.refl U.vm
  refine ⟨q0, ?_, ?_, ?_, q4, q5⟩
  · exact ab_R.moved (u := U) (U := U.calling g mk a) hal q1
  · exact va_K.moved (u := U) (U := U.calling g mk a) hal q2
  · exact ab_SF.moved (s := U) (U := U.calling g mk a) (H := U.heap) (locs := []) q3 (State.WarmedH.refl U) va_S.rf rfl
end
section
theorem ab_gin : GoodIn ab_W ab_W := fun w h => ⟨h, ab_W_good h⟩
theorem ab_ginM {M : AM} (hc : ab_cond M ∈ ab_W) : GoodIn ab_W (ab_ws M) := fun w h => by
  rcases List.mem_cons.mp h with e | e
  · rw [e]; exact ⟨hc, ab_W_good hc⟩
  · exact ⟨e, ab_W_good e⟩
def ab_nMH (s : String) : Bool := decide (s ≠ "java/lang/invoke/MethodHandle") && decide (s ≠ "java/lang/invoke/VarHandle")
def ab_pars (M : AM) (n : Nat) : Bool := ab_nMH M.y.cls && decide ((parseMethodDescriptor M.y.desc).map (fun d => d.parameters.length) = some n) && Nat.ble M.maxL 21
/-- a static call's words; a virtual one's; a constructor's -/
def ab_lkS (own : String) (idx : Nat) (M : AM) (n : Nat) (is : List Nat) : Bool := ab_ats is [.methodLink own idx M.y, .static M.y, .initialized M.y.cls, ab_cond M] && ab_pars M n
def ab_lkV (own : String) (idx : Nat) (M : AM) (n : Nat) (is : List Nat) : Bool := ab_ats is [.methodLink own idx M.y, .instanceMethod M.y, .selects M.y.cls M.y M.y, .initialized M.y.cls, ab_cond M] && ab_pars M n
def ab_lkI (own : String) (idx : Nat) (M : AM) (n : Nat) (is : List Nat) : Bool := ab_ats is [.methodLink own idx M.y, .instanceMethod M.y, .initialized M.y.cls, ab_cond M] && ab_pars M n && decide (M.y.name = "<init>") && decide (M.ret = none) && decide (M.hh = [])
def ab_lkN (own : String) (idx : Nat) (M : AM) (n : Nat) (is : List Nat) : Bool := ab_ats is [.instanceMethod M.y, .initialized M.y.cls, ab_cond M] && ab_pars M n && decide (M.y.name = "<init>") && decide (M.ret = none) && decide (M.hh = []) && decide (own = "LeafCradles") && decide ((idx, M.y) ∈ ab_nest)
theorem ab_pars_ok {M : AM} {n : Nat} (h : ab_pars M n = true) : (M.y.cls ≠ "java/lang/invoke/MethodHandle" ∧ M.y.cls ≠ "java/lang/invoke/VarHandle" ∧ (parseMethodDescriptor M.y.desc).map (fun d => d.parameters.length) = some n) ∧ M.maxL ≤ 21 := by
  unfold ab_pars ab_nMH at h
  simp only [Bool.and_eq_true, decide_eq_true_eq] at h
  exact ⟨⟨h.1.1.1, h.1.1.2, h.1.2⟩, Nat.le_of_ble_eq_true h.2⟩
section RUN
variable {E : AE} {M Mc : AM} {d pc : Nat} {p : Program} {e : Env} {R : Room} {s : State} {m : MethodId} {args : Array Value} {below : List Frame} {meth : Method} {c : Code} {H : Heap} {locs : List Loc} {cells slots : Nat} {ls : Array Slot} {L : AL}
variable {idx n : Nat} {is : List Nat} {av rest : List Value} {h h1 : AH} {o1 : AR0} {mc1 ms1 : Nat}
theorem ab_pre (C : ab_Ctx E M (d + 1) p R s m args meth c) (hR : ab_R E h s H) (hS : va_S (ab_A E) s.heap H locs) : ∀ U : State, U.heap = H → s.WarmedH U.vm → ab_Pc E av h (av.map (ab_v E)).toArray U := by
  intro U hU hW
  obtain ⟨cx, cb, cml, cr, cown, cw, clk, cnm, cex, cK, cSF, cf, clo, cfi, cfj⟩ := C
  refine ⟨rfl, by rw [hU]; exact ab_R.moved hW.alike hR, va_K.moved hW.alike cK, cSF.moved hW hS hU, ?_, ?_⟩
  · rw [hW.alike.findClass]; exact cfi
  · rw [hW.alike.findClass]; exact cfj
theorem ab_runS (C : ab_Ctx E M (d + 1) p R s m args meth c) (hR : ab_R E h s H) (hS : va_S (ab_A E) s.heap H locs) (hl : lv_has ls M.maxL (ab_lvs E L)) (hk : ab_lkS M.own idx Mc n is = true) (hn : av.length = n) (hc : CT E Mc d av h o1 h1 mc1 ms1) (hcat : ab_cat rest = true) (hd : decode M.bytes pc = .ok (.invokestatic idx, 3)) (f1 : cells + mc1 ≤ R.cells) (f2 : slots + ms1 ≤ R.slots) :
    vx_Run p E.l e R s m args below meth c H locs cells slots mc1 ms1 (F0 m pc ls ((av.reverse ++ rest).map (ab_v E))) (rest.map (ab_v E)) (ab_Qc E o1 h1 (av.map (ab_v E)).toArray) (ab_Xc E o1 h1) (ab_A E) := by
  have hpre := ab_pre (av := av) C hR hS
  obtain ⟨cx, cb, cml, cr, cown, cw, clk, cnm, cex, cK, cSF, cf, clo, cfi, cfj⟩ := id C
  unfold ab_lkS at hk
  rw [Bool.and_eq_true] at hk
  obtain ⟨hk1, hk2⟩ := hk
  have hm := ab_ats_mem hk1
  obtain ⟨hk3, hk4⟩ := ab_pars_ok hk2
  have hcd : ab_cond Mc ∈ ab_W := hm _ (by simp)
  have hcat := ab_cat8 (E := E) hcat
  have hG : GoodIn ab_W (va_wsS M.own idx Mc.y (ab_ws Mc)) := by
    intro w hw
    rcases List.mem_append.mp hw with hw | hw
    · have : w ∈ ab_W := hm w (by simp at hw ⊢; rcases hw with rfl | rfl | rfl <;> simp)
      exact ⟨this, ab_W_good this⟩
    · exact ab_ginM hcd w hw
  have hrm : (ab_rm d mc1 ms1).frames + 1 ≤ R.frames ∧ 8 + (Mc.maxL + 11) + (ab_rm d mc1 ms1).locals ≤ R.locals := ⟨by show d + 8 + 1 ≤ _; omega, by show 8 + (Mc.maxL + 11) + (40 * d + 200) ≤ _; omega⟩
  have hF : CallFix p m c M.bytes M.maxL s args ab_W M.own := ⟨cx, cb, cml, cown, cw⟩
  have hst : (F0 m pc ls ((av.reverse ++ rest).map (ab_v E))).stack = (av.map (ab_v E)).reverse ++ rest.map (ab_v E) := by
    show (av.reverse ++ rest).map (ab_v E) = _
    rw [List.map_append, List.map_reverse]
  cases hh : Mc.hh with
  | nil =>
    have hw : ab_ws Mc = Cond.code Mc.y Mc.bytes Mc.maxL Mc.ret :: ab_W := by unfold ab_ws ab_cond; rw [hh]
    exact vx_runS hF hc (va_cwS n cw hG hw rfl rfl hk3 hrm) ⟨ab_blind E av h, hpre⟩ rfl (by simpa using hn) hl.1 hst (by show 2 * 0 + _ ≤ 8; omega) hd ⟨f1, f2⟩
  | cons q r =>
    have hw : ab_ws Mc = Cond.codeWith Mc.y Mc.bytes Mc.maxL Mc.ret (q :: r) :: ab_W := by unfold ab_ws ab_cond; rw [hh]
    exact vx_runSX hF hc (vx_cwSW n cw hG hw rfl rfl hk3 hrm) ⟨ab_blind E av h, hpre⟩ rfl (by simpa using hn) hl.1 hst (by show 2 * 0 + _ ≤ 8; omega) hd ⟨f1, f2⟩
theorem ab_runV {q ci : Nat} {fs : List Value} (C : ab_Ctx E M (d + 1) p R s m args meth c) (hR : ab_R E h s H) (hS : va_S (ab_A E) s.heap H locs) (hl : lv_has ls M.maxL (ab_lvs E L)) (hk : ab_lkV M.own idx Mc n is = true) (hg : ab_get h q = some (.inr (ci, fs))) (hci : (vwCl[ci]?).map (·.1) = some Mc.y.cls) (hn : av.length = n) (hc : CT E Mc d (.ref q :: av) h o1 h1 mc1 ms1) (hcat : ab_cat rest = true) (hd : decode M.bytes pc = .ok (.invokevirtual idx, 3)) (f1 : cells + mc1 ≤ R.cells) (f2 : slots + ms1 ≤ R.slots) :
    vx_Run p E.l e R s m args below meth c H locs cells slots mc1 ms1 (F0 m pc ls ((av.reverse ++ .ref q :: rest).map (ab_v E))) (rest.map (ab_v E)) (ab_Qc E o1 h1 ((.ref q :: av).map (ab_v E)).toArray) (ab_Xc E o1 h1) (ab_A E) := by
  have hpre := ab_pre (av := .ref q :: av) C hR hS
  obtain ⟨cx, cb, cml, cr, cown, cw, clk, cnm, cex, cK, cSF, cf, clo, cfi, cfj⟩ := id C
  unfold ab_lkV at hk
  rw [Bool.and_eq_true] at hk
  obtain ⟨hk1, hk2⟩ := hk
  have hm := ab_ats_mem hk1
  obtain ⟨hk3, hk4⟩ := ab_pars_ok hk2
  have hcd : ab_cond Mc ∈ ab_W := hm _ (by simp)
  have hcat := ab_cat8 (E := E) hcat
  have hG : GoodIn ab_W (wsV M.own idx Mc.y.cls Mc.y (ab_ws Mc)) := by
    intro w hw
    rcases List.mem_append.mp hw with hw | hw
    · have : w ∈ ab_W := hm w (by simp at hw ⊢; rcases hw with rfl | rfl | rfl | rfl <;> simp)
      exact ⟨this, ab_W_good this⟩
    · exact ab_ginM hcd w hw
  have hrm : (ab_rm d mc1 ms1).frames + 1 ≤ R.frames ∧ 8 + (Mc.maxL + 11) + (ab_rm d mc1 ms1).locals ≤ R.locals := ⟨by show d + 8 + 1 ≤ _; omega, by show 8 + (Mc.maxL + 11) + (40 * d + 200) ≤ _; omega⟩
  have hF : CallFix p m c M.bytes M.maxL s args ab_W M.own := ⟨cx, cb, cml, cown, cw⟩
  have hst : (F0 m pc ls ((av.reverse ++ .ref q :: rest).map (ab_v E))).stack = (av.map (ab_v E)).reverse ++ .ref (ab_adr E q) :: rest.map (ab_v E) := by
    show (av.reverse ++ .ref q :: rest).map (ab_v E) = _
    rw [List.map_append, List.map_reverse]
    rfl
  have q0 := ab_new_of hR hg
  have ha := hR.2.2.2.1 q _ q0 hg
  obtain ⟨x, hx, hx2⟩ : ∃ x, vwCl[ci]? = some x ∧ x.1 = Mc.y.cls := by
    cases hz : vwCl[ci]? with
    | none => rw [hz] at hci; cases hci
    | some x => rw [hz] at hci; exact ⟨x, rfl, Option.some.inj hci⟩
  have hrec : ∃ cellB : Cell, H[ab_adr E q]? = some cellB ∧ cellB.vm.isStatics = false ∧ s.vm.findClass Mc.y.cls = some cellB.cls := by
    have := va_recv (tys := ab_tys E) cK (ab_P1 ha) (q0 := 0) hx rfl
    rw [hx2] at this
    exact this
  cases hh : Mc.hh with
  | nil =>
    have hw : ab_ws Mc = Cond.code Mc.y Mc.bytes Mc.maxL Mc.ret :: ab_W := by unfold ab_ws ab_cond; rw [hh]
    exact vx_runV (As := av.map (ab_v E)) hF hc (cwV n cw hG hw rfl rfl ⟨rfl, hk3⟩ hrm) ⟨ab_blind E _ h, hrec, hpre⟩ rfl (by simpa using hn) hl.1 hst (by show 2 * 0 + _ ≤ 8; omega) hd ⟨f1, f2⟩
  | cons x r =>
    have hw : ab_ws Mc = Cond.codeWith Mc.y Mc.bytes Mc.maxL Mc.ret (x :: r) :: ab_W := by unfold ab_ws ab_cond; rw [hh]
    exact vx_runVX (As := av.map (ab_v E)) hF hc (vx_cwVW n cw hG hw rfl rfl ⟨rfl, hk3⟩ hrm) ⟨ab_blind E _ h, hrec, hpre⟩ rfl (by simpa using hn) hl.1 hst (by show 2 * 0 + _ ≤ 8; omega) hd ⟨f1, f2⟩
end RUN
/-- from here, with an exception of class En in flight -/
def ARX (E : AE) (M : AM) (d pc : Nat) (L : AL) (st : List Value) (h : AH) (En : String) (o : AR0) (h' : AH) (mc ms : Nat) : Prop :=
  ∀ (p : Program) (e : Env) (R : Room) (s : State) (m : MethodId) (args : Array Value) (below : List Frame) (meth : Method) (c : Code) (H : Heap) (locs : List Loc) (cells slots : Nat) (ls : Array Slot) (mcT msT : Nat),
    ab_Ctx E M d p R s m args meth c → ab_R E h s H → va_S (ab_A E) s.heap H locs → lv_has ls M.maxL (ab_lvs E L) → cells + mc ≤ mcT → slots + ms ≤ msT → mcT ≤ R.cells → msT ≤ R.slots →
    ∀ (ce : Cell) (q9 : Addr), H[q9]? = some ce → ce.vm = .none → s.vm.findClass En = some ce.cls →
    vx_W p E.l e R s m args below meth c H locs cells slots (vx_MQ below (ab_Qc E o h') (ab_Xc E o h') args s mcT msT (ab_A E)) (F0 m pc ls (st.map (ab_v E))) q9
section CALL
variable {E : AE} {M Mc : AM} {d pc : Nat} {L : AL} {st rest : List Value} {h h1 : AH} {o : AR0} {h' : AH} {mc ms mc1 ms1 : Nat} {idx : Nat} {is : List Nat} {av : List Value} {r : Option Value} {En : String}
theorem ab_close {p : Program} {e : Env} {R : Room} {s : State} {m : MethodId} {args : Array Value} {below : List Frame} {meth : Method} {c : Code} {H : Heap} {locs : List Loc} {cells slots : Nat} {ls : Array Slot} {mcT msT : Nat} {a9 : Array Value} {st0 : List Value}
    (C : ab_Ctx E M (d + 1) p R s m args meth c) (hS : va_S (ab_A E) s.heap H locs) (hl : lv_has ls M.maxL (ab_lvs E L)) (b1 : cells + (mc1 + mc) ≤ mcT) (b2 : slots + (ms1 + ms) ≤ msT) (b3 : mcT ≤ R.cells) (b4 : msT ≤ R.slots)
    (hr : vx_Run p E.l e R s m args below meth c H locs cells slots mc1 ms1 (F0 m pc ls st0) (rest.map (ab_v E)) (ab_Qc E (.inl r) h1 a9) (ab_Xc E (.inl r) h1) (ab_A E))
    (k : AR E M (d + 1) (pc + 3) L (r.toList ++ rest) h1 o h' mc ms) : W p E.l e R s m args below meth c H locs cells slots (vx_MQ below (ab_Qc E o h') (ab_Xc E o h') args s mcT msT (ab_A E)) (F0 m pc ls st0) := by
  intro T hT X
  rcases hr T hT X with ⟨v, st₀, t, T', L1, h0, X', hL, e1, e2, ⟨r', hr1, hr2, hR1, hF⟩, hgo⟩ | ⟨q, st₀, t, T', L1, E1, ce, h0, X', hL, e1, e2, ⟨hz, -, -⟩, -⟩
  · cases hr1
    cases hr2
    obtain ⟨k1, k2, k3⟩ := vx_keep h0 e1 hS (A1 := ab_A E) (fun _ _ z => z) (fun _ z => z) hL hF
    have hal : t.vm.Alike s.vm := by rw [← e2]; exact X'.warmed.alike.symm
    have hR2 : ab_R E h1 s T'.heap := by rw [e1]; exact ab_R.moved hal hR1
    obtain ⟨t2, a1, b1'⟩ := k p e R s m args below meth c T'.heap (locs ++ L1) (cells + mc1) (slots + ms1) ls mcT msT C hR2 k3 hl (by omega) (by omega) b3 b4 T' rfl X'
    refine ⟨t2, hgo t2 ?_, b1'⟩
    have : (Option.map (ab_v E) r).toList ++ List.map (ab_v E) rest = List.map (ab_v E) (r.toList ++ rest) := by cases r <;> rfl
    rw [this]
    exact a1
  · cases hz
theorem ab_closeX {p : Program} {e : Env} {R : Room} {s : State} {m : MethodId} {args : Array Value} {below : List Frame} {meth : Method} {c : Code} {H : Heap} {locs : List Loc} {cells slots : Nat} {ls : Array Slot} {mcT msT : Nat} {a9 : Array Value} {st0 : List Value}
    (C : ab_Ctx E M (d + 1) p R s m args meth c) (hS : va_S (ab_A E) s.heap H locs) (hl : lv_has ls M.maxL (ab_lvs E L)) (b1 : cells + (mc1 + mc) ≤ mcT) (b2 : slots + (ms1 + ms) ≤ msT) (b3 : mcT ≤ R.cells) (b4 : msT ≤ R.slots)
    (hr : vx_Run p E.l e R s m args below meth c H locs cells slots mc1 ms1 (F0 m pc ls st0) (rest.map (ab_v E)) (ab_Qc E (.inr En) h1 a9) (ab_Xc E (.inr En) h1) (ab_A E))
    (k : ARX E M (d + 1) pc L rest h1 En o h' mc ms) : W p E.l e R s m args below meth c H locs cells slots (vx_MQ below (ab_Qc E o h') (ab_Xc E o h') args s mcT msT (ab_A E)) (F0 m pc ls st0) := by
  intro T hT X
  rcases hr T hT X with ⟨v, st₀, t, T', L1, h0, X', hL, e1, e2, ⟨r', hr1, -⟩, hgo⟩ | ⟨q, st₀, t, T', L1, E1, ce, h0, X', hL, e1, e2, ⟨hz, hR1, hF⟩, hce, hcv, hcl, hst⟩
  · cases hr1
  · cases hz
    obtain ⟨k1, k2, k3⟩ := vx_keep h0 e1 hS (A1 := ab_A E) (fun _ _ z => z) (fun _ z => z) hL hF
    have hal : t.vm.Alike s.vm := by rw [← e2]; exact X'.warmed.alike.symm
    have hR2 : ab_R E h1 s T'.heap := by rw [e1]; exact ab_R.moved hal hR1
    obtain ⟨t2, a1, b1'⟩ := k p e R s m args below meth c T'.heap (locs ++ L1) (cells + mc1) (slots + ms1) ls mcT msT C hR2 k3 hl (by omega) (by omega) b3 b4 ce q (by rw [e1]; exact hce) hcv hcl T' rfl X'
    exact ⟨t2, hst.trans a1, b1'⟩
theorem AR.callS (hk : ab_lkS M.own idx Mc av.length is = true) (hd : decode M.bytes pc = .ok (.invokestatic idx, 3)) (hc : CT E Mc d av h (.inl r) h1 mc1 ms1) (hst : st = av.reverse ++ rest) (hcat : ab_cat rest = true) (k : AR E M (d + 1) (pc + 3) L (r.toList ++ rest) h1 o h' mc ms) : AR E M (d + 1) pc L st h o h' (mc1 + mc) (ms1 + ms) := by
  subst hst
  intro p e R s m args below meth c H locs cells slots ls mcT msT C hR hS hl b1 b2 b3 b4
  exact ab_close C hS hl b1 b2 b3 b4 (ab_runS C hR hS hl hk rfl hc hcat hd (by omega) (by omega)) k
theorem AR.callV {q ci : Nat} {fs : List Value} (hk : ab_lkV M.own idx Mc av.length is = true) (hd : decode M.bytes pc = .ok (.invokevirtual idx, 3)) (hg : ab_get h q = some (.inr (ci, fs))) (hci : (vwCl[ci]?).map (·.1) = some Mc.y.cls) (hc : CT E Mc d (.ref q :: av) h (.inl r) h1 mc1 ms1) (hst : st = av.reverse ++ .ref q :: rest) (hcat : ab_cat rest = true) (k : AR E M (d + 1) (pc + 3) L (r.toList ++ rest) h1 o h' mc ms) : AR E M (d + 1) pc L st h o h' (mc1 + mc) (ms1 + ms) := by
  subst hst
  intro p e R s m args below meth c H locs cells slots ls mcT msT C hR hS hl b1 b2 b3 b4
  exact ab_close C hS hl b1 b2 b3 b4 (ab_runV C hR hS hl hk hg hci rfl hc hcat hd (by omega) (by omega)) k
theorem AR.callSX (hk : ab_lkS M.own idx Mc av.length is = true) (hd : decode M.bytes pc = .ok (.invokestatic idx, 3)) (hc : CT E Mc d av h (.inr En) h1 mc1 ms1) (hst : st = av.reverse ++ rest) (hcat : ab_cat rest = true) (k : ARX E M (d + 1) pc L rest h1 En o h' mc ms) : AR E M (d + 1) pc L st h o h' (mc1 + mc) (ms1 + ms) := by
  subst hst
  intro p e R s m args below meth c H locs cells slots ls mcT msT C hR hS hl b1 b2 b3 b4
  exact ab_closeX C hS hl b1 b2 b3 b4 (ab_runS C hR hS hl hk rfl hc hcat hd (by omega) (by omega)) k
theorem AR.callVX {q ci : Nat} {fs : List Value} (hk : ab_lkV M.own idx Mc av.length is = true) (hd : decode M.bytes pc = .ok (.invokevirtual idx, 3)) (hg : ab_get h q = some (.inr (ci, fs))) (hci : (vwCl[ci]?).map (·.1) = some Mc.y.cls) (hc : CT E Mc d (.ref q :: av) h (.inr En) h1 mc1 ms1) (hst : st = av.reverse ++ .ref q :: rest) (hcat : ab_cat rest = true) (k : ARX E M (d + 1) pc L rest h1 En o h' mc ms) : AR E M (d + 1) pc L st h o h' (mc1 + mc) (ms1 + ms) := by
  subst hst
  intro p e R s m args below meth c H locs cells slots ls mcT msT C hR hS hl b1 b2 b3 b4
  exact ab_closeX C hS hl b1 b2 b3 b4 (ab_runV C hR hS hl hk hg hci rfl hc hcat hd (by omega) (by omega)) k
/-- it isn't caught here -/
theorem ARX.out (hh : M.hh = []) : ARX E M d pc L st h En (.inr En) h mc ms := by
  intro p e R s m args below meth c H locs cells slots ls mcT msT C hR hS hl b1 b2 b3 b4 ce q9 hce hcv hcl
  refine vx_out (fun x hx => ?_) C.2.2.2.2.2.2.1 hce hcv hcl (fun t ht hW => ⟨rfl, by rw [ht]; exact ab_R.moved hW hR, hS.F ht⟩) hS.2.2 (by omega) (by omega)
  rw [C.2.2.2.2.2.2.2.2.1, hh] at hx
  cases hx
def ab_pass (own En : String) (pc : Nat) : List ExceptionTableEntry → List (Nat × String) → Bool
  | [], _ => true
  | x :: xs, (i, nm) :: r => (decide (x.catchType ≠ 0) && ab_at i (.classLink own x.catchType nm) && decide ((En, nm) ∈ ab_nc)) && ab_pass own En pc xs r
  | _ :: _, [] => false
theorem ab_pass_ok {own En : String} {pc : Nat} {s : State} {args : Array Value} (hw : ∀ w ∈ ab_W, w.before args s = true) (hn : ∀ q ∈ ab_nc, va_Nc q.1 q.2 s) : ∀ {xs : List ExceptionTableEntry} {r : List (Nat × String)}, ab_pass own En pc xs r = true → ∀ z ∈ xs, covers z pc = false ∨ (z.catchType ≠ 0 ∧ ∃ nm : String, (Cond.classLink own z.catchType nm).before args s = true ∧ va_Nc En nm s)
  | [], _, _ => fun z h => nomatch h
  | x :: xs, (i, nm) :: r, h => fun z hz => by
    simp only [ab_pass, Bool.and_eq_true, decide_eq_true_eq] at h
    rcases List.mem_cons.mp hz with e | e
    · rw [e]; exact Or.inr ⟨h.1.1.1, nm, hw _ (ab_at_mem h.1.1.2), hn _ h.1.2⟩
    · exact ab_pass_ok hw hn h.2 z e
  | _ :: _, [], h => by simp [ab_pass] at h
/-- it is caught here, and put away -/
theorem ARX.catch {a : Nat} {rs : List (Nat × String)} {i9 : Nat} (pre : List ExceptionTableEntry) (x : ExceptionTableEntry) (suf : List ExceptionTableEntry) (hsplit : tableOf M.hh = pre ++ x :: suf) (hpass : ab_pass M.own En pc pre rs = true) (hx : covers x pc = true) (h0 : x.catchType ≠ 0) (hlink : ab_at i9 (.classLink M.own x.catchType En) = true) (hexs : En ∈ ab_exs)
    (hd : decode M.bytes x.handlerPc = .ok (.astore a, 2) ∨ ∃ a4 : Fin 4, (a4 : Nat) = a ∧ decode M.bytes x.handlerPc = .ok (.astore_n a4, 1)) (ha : a < M.maxL) {tgt : Nat} (htg : decode M.bytes x.handlerPc = .ok (.astore a, 2) ∧ tgt = x.handlerPc + 2 ∨ (∃ a4 : Fin 4, (a4 : Nat) = a ∧ decode M.bytes x.handlerPc = .ok (.astore_n a4, 1)) ∧ tgt = x.handlerPc + 1)
    (k : AR E M d tgt ((ab_clr L a).set a none) [] h o h' mc ms) : ARX E M d pc L st h En o h' mc ms := by
  intro p e R s m args below meth c H locs cells slots ls mcT msT C hR hS hl b1 b2 b3 b4 ce q9 hce hcv hcl
  have hput : ∀ ls' : Array Slot, lv_has ls' M.maxL ((a, Value.ref q9) :: (ab_lvs E L).filter (fun q => !(q.1 == a) && !(q.1 + 1 == a && q.2.category == 2))) → lv_has ls' M.maxL (ab_lvs E ((ab_clr L a).set a none)) := by
    intro ls' hl'
    refine ab_has_of hl' fun q hq => ?_
    obtain ⟨w, h1, h2⟩ := ab_lvs_mem.mp hq
    by_cases e9 : q.1 = a
    · rw [e9, List.getElem?_set] at h1
      split at h1
      · split at h1 <;> cases h1
      · exact absurd rfl (by assumption)
    · rw [List.getElem?_set_ne (fun z => e9 z.symm)] at h1
      obtain ⟨g1, g2⟩ := ab_clr_get L a q.1 w h1
      refine List.mem_cons_of_mem _ (List.mem_filter.mpr ⟨ab_lvs_mem.mpr ⟨w, g1, h2⟩, ?_⟩)
      rw [h2, ab_cat_v]
      simp [e9]
      omega
  refine vx_catch C.2.2.2.2.1 pre x suf (by rw [C.2.2.2.2.2.2.2.2.1]; exact hsplit) (ab_pass_ok C.2.2.2.2.2.1 C.2.2.2.2.2.2.2.2.2.2.1.2.2.2.2.1 hpass) hx h0 (C.2.2.2.2.2.1 _ (ab_at_mem hlink)) ((C.2.2.2.2.2.2.2.2.2.2.1.2.2.2.2.2.2.2.2.1 En hexs).word) hce hcv hcl ?_
  rcases htg with ⟨hd2, rfl⟩ | ⟨⟨a4, ha4, hd2⟩, rfl⟩
  · exact lv_astore (lv' := _) C.1 C.2.1 hd2 hl ha rfl (fun ls' hl' => k p e R s m args below meth c H locs cells slots ls' mcT msT C hR hS (hput ls' hl') b1 b2 b3 b4)
  · exact lv_astore_n (lv' := _) C.1 C.2.1 hd2 ha4 hl ha rfl (fun ls' hl' => k p e R s m args below meth c H locs cells slots ls' mcT msT C hR hS (hput ls' hl') b1 b2 b3 b4)
end CALL
end
section
theorem CT.met {E : AE} {M : AM} {d : Nat} {av : List Value} {h : AH} {r : Option Value} {h' : AH} {mc ms : Nat} (hc : CT E M d av h (.inl r) h' mc ms) : Met E.l M.y (ab_ws M) (ab_rm d mc ms) (ab_Pc E av h) (ab_Qc E (.inl r) h') mc ms (ab_A E) := by
  intro p e ha hcs hk s m args below hf happ hP hK
  obtain ⟨n, o, h1, h2, h3, h4⟩ := hc p e ha hcs hk s m args below hf happ hP hK
  refine ⟨n, o, h1, h2, h3, ?_⟩
  rcases h4 with h4 | ⟨q, rfl, En, ce, L, ⟨hz, -⟩, -⟩
  · exact h4
  · cases hz
section NEW
variable {E : AE} {M Mc : AM} {d pc : Nat} {L : AL} {st rest : List Value} {h h1 : AH} {o : AR0} {h' : AH} {mc ms mc1 ms1 : Nat} {idx : Nat} {is : List Nat} {av : List Value}
theorem ab_ofRun {p : Program} {l : Launch} {e : Env} {R : Room} {s : State} {m : MethodId} {args : Array Value} {below : List Frame} {meth : Method} {c : Code} {H : Heap} {locs : List Loc} {cells slots mc ms : Nat} {g : JFrame} {rest : List Value} {Qa : State → Outcome → State → Prop} {XC : String → State → State → Prop} {free : Addr → Prop} (h : va_Run p l e R s m args below meth c H locs cells slots mc ms g rest Qa free) : vx_Run p l e R s m args below meth c H locs cells slots mc ms g rest Qa XC free := fun T hT X => Or.inl (h T hT X)
theorem AR.callI {q : Nat} (hk : ab_lkI M.own idx Mc av.length is = true) (hd : decode M.bytes pc = .ok (.invokespecial idx, 3)) (hc : CT E Mc d (.ref q :: av) h (.inl none) h1 mc1 ms1) (hstk : st = av.reverse ++ .ref q :: rest) (hcat : ab_cat rest = true) (k : AR E M (d + 1) (pc + 3) L rest h1 o h' mc ms) : AR E M (d + 1) pc L st h o h' (mc1 + mc) (ms1 + ms) := by
  subst hstk
  intro p e R s m args below meth c H locs cells slots ls mcT msT C hR hS hl b1 b2 b3 b4
  refine ab_close (r := none) (a9 := ((Value.ref q :: av).map (ab_v E)).toArray) C hS hl b1 b2 b3 b4 (ab_ofRun ?_) k
  have hpre := ab_pre (av := .ref q :: av) C hR hS
  obtain ⟨cx, cb, cml, cr, cown, cw, clk, cnm, cex, cK, cSF, cf, clo, cfi, cfj⟩ := id C
  simp only [ab_lkI, Bool.and_eq_true, decide_eq_true_eq] at hk
  obtain ⟨⟨⟨⟨hk1, hk2⟩, hnm⟩, hret⟩, hh⟩ := hk
  have hm := ab_ats_mem hk1
  obtain ⟨hk3, hk4⟩ := ab_pars_ok hk2
  have hcd : ab_cond Mc ∈ ab_W := hm _ (by simp)
  have hcat := ab_cat8 (E := E) hcat
  have hrm : (ab_rm d mc1 ms1).frames + 1 ≤ R.frames ∧ 8 + (Mc.maxL + 11) + (ab_rm d mc1 ms1).locals ≤ R.locals := ⟨by show d + 8 + 1 ≤ _; omega, by show 8 + (Mc.maxL + 11) + (40 * d + 200) ≤ _; omega⟩
  have hF : CallFix p m c M.bytes M.maxL s args ab_W M.own := ⟨cx, cb, cml, cown, cw⟩
  have hst : (F0 m pc ls ((av.reverse ++ .ref q :: rest).map (ab_v E))).stack = (av.map (ab_v E)).reverse ++ .ref (ab_adr E q) :: rest.map (ab_v E) := by
    show (av.reverse ++ .ref q :: rest).map (ab_v E) = _
    rw [List.map_append, List.map_reverse]
    rfl
  have hw : ab_ws Mc = Cond.code Mc.y Mc.bytes Mc.maxL none :: ab_W := by unfold ab_ws ab_cond; rw [hh, hret]
  exact va_runI (b := ab_adr E q) (As := av.map (ab_v E)) hF hc.met (by
      have hcb : CallB R s args M.own idx Mc.y Mc.bytes Mc.maxL none (ab_ws Mc) (ab_rm d mc1 ms1) mc1 ms1 av.length := callB_of av.length cw (ab_ginM hcd) hw rfl rfl (cw _ (hm _ (by simp))) (cw _ (hm _ (by simp))) hk3 hrm
      exact ⟨hcb, hnm, cw _ (hm _ (by simp))⟩) ⟨ab_blind E _ h, hpre⟩ rfl (by simp) hl.1 hst (by show 2 * 0 + _ ≤ 8; omega) hd ⟨by omega, by omega⟩
theorem AR.callN {q : Nat} (hk : ab_lkN M.own idx Mc av.length is = true) (hd : decode M.bytes pc = .ok (.invokespecial idx, 3)) (hc : CT E Mc d (.ref q :: av) h (.inl none) h1 mc1 ms1) (hstk : st = av.reverse ++ .ref q :: rest) (hcat : ab_cat rest = true) (k : AR E M (d + 1) (pc + 3) L rest h1 o h' mc ms) : AR E M (d + 1) pc L st h o h' (mc1 + mc) (ms1 + ms) := by
  subst hstk
  intro p e R s m args below meth c H locs cells slots ls mcT msT C hR hS hl b1 b2 b3 b4
  refine ab_close (r := none) (a9 := ((Value.ref q :: av).map (ab_v E)).toArray) C hS hl b1 b2 b3 b4 (ab_ofRun ?_) k
  have hpre := ab_pre (av := .ref q :: av) C hR hS
  obtain ⟨cx, cb, cml, cr, cown, cw, clk, cnm, cex, cK, cSF, cf, clo, cfi, cfj⟩ := id C
  simp only [ab_lkN, Bool.and_eq_true, decide_eq_true_eq] at hk
  obtain ⟨⟨⟨⟨⟨⟨hk1, hk2⟩, hnm⟩, hret⟩, hh⟩, hownL⟩, hnst⟩ := hk
  have hm := ab_ats_mem hk1
  obtain ⟨hk3, hk4⟩ := ab_pars_ok hk2
  have hcd : ab_cond Mc ∈ ab_W := hm _ (by simp)
  have hcat := ab_cat8 (E := E) hcat
  have hrm : (ab_rm d mc1 ms1).frames + 1 ≤ R.frames ∧ 8 + (Mc.maxL + 11) + (ab_rm d mc1 ms1).locals ≤ R.locals := ⟨by show d + 8 + 1 ≤ _; omega, by show 8 + (Mc.maxL + 11) + (40 * d + 200) ≤ _; omega⟩
  have hF : CallFix p m c M.bytes M.maxL s args ab_W M.own := ⟨cx, cb, cml, cown, cw⟩
  have hst : (F0 m pc ls ((av.reverse ++ .ref q :: rest).map (ab_v E))).stack = (av.map (ab_v E)).reverse ++ .ref (ab_adr E q) :: rest.map (ab_v E) := by
    show (av.reverse ++ .ref q :: rest).map (ab_v E) = _
    rw [List.map_append, List.map_reverse]
    rfl
  have hw : ab_ws Mc = Cond.code Mc.y Mc.bytes Mc.maxL none :: ab_W := by unfold ab_ws ab_cond; rw [hh, hret]
  exact va_runIN (b := ab_adr E q) (As := av.map (ab_v E)) hF hc.met (by
      refine ⟨va_cnB (host := "LeafCradles") av.length cw (ab_ginM hcd) hw rfl rfl ?_ (cw _ (hm _ (by simp))) hk3 hrm, hnm, cw _ (hm _ (by simp))⟩
      rw [hownL]
      exact cSF.2.2.2.2.2.1 _ hnst) ⟨ab_blind E _ h, hpre⟩ rfl (by simp) hl.1 hst (by show 2 * 0 + _ ≤ 8; omega) hd ⟨by omega, by omega⟩
theorem ab_R_tail {U : State} {H : Heap} (hR : ab_R E h U H) (hex : E.ex = true) {tl : List AC} (htl : h[E.caps.length + 1]? = some tl) (hlt : tl.length < 4096) : ab_adr E (4096 * (E.caps.length + 1) + tl.length) = H.size := by
  obtain ⟨g1, ⟨t, g2, -, g3e⟩, -⟩ := hR
  cases htl.symm.trans g2
  have g3 := g3e hex
  have e1 : (4096 * (E.caps.length + 1) + tl.length) / 4096 = E.caps.length + 1 := by omega
  have e2 : (4096 * (E.caps.length + 1) + tl.length) % 4096 = tl.length := by omega
  unfold ab_adr
  rw [e1, e2, if_neg (by omega), show E.caps.length + 1 - 1 = E.caps.length by omega, ab_off_all, g3]
theorem ab_S_push {A : Nat → Prop} {H0 H H1 : Heap} {locs : List Loc} (hS : va_S A H0 H locs) (z1 : H1.size = H.size + 1) (o1 : ∀ q, q < H.size → H1[q]? = H[q]?) : va_S A H0 H1 locs := ⟨Nat.le_trans hS.1 (by omega), fun x h1 h2 => (o1 x (Nat.lt_of_lt_of_le h1 hS.1)).trans (hS.2.1 x h1 h2), hS.2.2⟩
theorem AR.new {ci : Nat} {Cn : String} {T : u_T} {N i9 : Nat} {fs : List Value} {tl : List AC} (hex : E.ex = true) (hcl : vwCl[ci]? = some (Cn, T, N)) (hlk : ab_at i9 (.classLink M.own idx Cn) = true) (hd : decode M.bytes pc = .ok (.new idx, 3)) (htl : h[E.caps.length + 1]? = some tl) (hlt : tl.length < 4096) (hfs : ∀ j, j < N → defaultValue (ab_ty ci j) = vp_V fs j) (hmap : fs.map (ab_v E) = fs) (k : AR E M d (pc + 3) L (.ref (4096 * (E.caps.length + 1) + tl.length) :: st) (ab_push h (.inr (ci, fs))) o h' mc ms) : AR E M d pc L st h o h' (mc + 1) (ms + N) := by
  intro p e R s m args below meth c H locs cells slots ls mcT msT C hR hS hl b1 b2 b3 b4
  obtain ⟨cx, cb, cml, cr, cown, cw, clk, cnm, cex, cK, cSF, cf, clo, cfi, cfj⟩ := id C
  obtain ⟨hin, hins, hini, hty, hnm, hCT⟩ := ab_cls ci Cn T N hcl
  have hKn := cK.1 ci _ hcl
  have hts : ∀ w ∈ ab_W, w.before args s = true := cw
  have had := ab_R_tail hR hex htl hlt
  refine W.newcK cx cb cown (cw _ (ab_at_mem hlk)) (cw _ hins) (cw _ hini) rfl hd (by omega) (by omega) hKn.2.1 rfl fun H1 kC hkC e1 z1 o1 => ?_
  have hva : va_at E.D vwCl (H.size, ab_cell E (.inr (ci, fs))) H1 := by
    show va_at E.D vwCl (H.size, .inr (ci, fs.map (ab_v E))) H1
    rw [hmap]
    exact ⟨_, hcl, (u_born (ab_ty ci) hts hin hKn hkC e1 hty).to hfs⟩
  have hgo := k p e R s m args below meth c H1 locs (cells + 1) (slots + N) ls mcT msT C (ab_R_push hR hex hva z1 o1).1 (ab_S_push hS z1 o1) hl (by omega) (by omega) b3 b4
  rw [← had]
  exact hgo
theorem AR.newaI {x : Int32} {N i9 : Nat} {tl : List AC} (hex : E.ex = true) (hlk : ab_at i9 (.arrayClass .int) = true) (hd : decode M.bytes pc = .ok (.newarray .int, 2)) (htl : h[E.caps.length + 1]? = some tl) (hlt : tl.length < 4096) (hx : ¬ x < 0) (hN : x.toNatClampNeg = N) (hb : N ≤ 60000000) (k : AR E M d (pc + 2) L (.ref (4096 * (E.caps.length + 1) + tl.length) :: st) (ab_push h (.inl (.inl (N, fun _ => 0)))) o h' mc ms) : AR E M d pc L (.int x :: st) h o h' (mc + 1) (ms + N) := by
  intro p e R s m args below meth c H locs cells slots ls mcT msT C hR hS hl b1 b2 b3 b4
  obtain ⟨cx, cb, cml, cr, cown, cw, clk, cnm, cex, cK, cSF, cf, clo, cfi, cfj⟩ := id C
  have had := ab_R_tail hR hex htl hlt
  refine va_newaK (atype := .int) cx cb (cw _ (ab_at_mem hlk)) rfl hd rfl hx hN (show N * 4 ≤ 536870912 by omega) (by omega) (by omega) rfl fun H1 cA e1 z1 o1 hAr hNm => ?_
  have hcA : cA = E.cI := by
    have h9 : s.vm.findClass "[I" = some cA := hNm
    exact Option.some.inj (h9.symm.trans cfi)
  subst hcA
  have hva : va_at E.D vwCl (H.size, ab_cell E (.inl (.inl (N, fun _ => 0)))) H1 := e1
  have hgo := k p e R s m args below meth c H1 locs (cells + 1) (slots + N) ls mcT msT C (ab_R_push hR hex hva z1 o1).1 (ab_S_push hS z1 o1) hl (by omega) (by omega) b3 b4
  rw [← had]
  exact hgo
def ab_thr (ic : Nat) (cls : String) : List Cond := vx_atS "LeafCradles" ic cls ["java/lang/RuntimeException", "java/lang/Exception"]
def ab_thrOk (ic : Nat) (cls : String) : Bool := (ab_thr ic cls).all (fun w => if goodWord w then decide (w ∈ lw_tbl) else (decide (w = .castable cls cls) || ab_decls.any (fun q => decide (w = .declares q)))) && (ab_thr ic cls).all vx_ot && Bundle.fit cls && vx_ot (.initialized cls) && decide (cls ∈ ab_exs)
theorem ab_thrOk_143 : ab_thrOk 143 "java/lang/IllegalArgumentException" = true := by decide +kernel
theorem ab_thrOk_258 : ab_thrOk 258 "java/lang/IndexOutOfBoundsException" = true := by decide +kernel
theorem ab_thrOk_42 : ab_thrOk 42 "java/lang/IllegalStateException" = true := by decide +kernel
theorem AR.throwS {ic ik is9 i8 i9 : Nat} {cls text : String} (hex : E.ex = false) (hown : M.own = "LeafCradles") (hh : M.hh = []) (hok : ab_thrOk ic cls = true) (hlk : ab_ats [i8, i9] [.classLink "LeafCradles" ik cls, .initialized cls] = true) (hg : vx_ot (.classLink "LeafCradles" ik cls) = true) (hstr : ("LeafCradles", is9, text) ∈ ab_strs)
    (d0 : decode M.bytes pc = .ok (.new ik, 3)) (d3 : decode M.bytes (pc + 3) = .ok (.dup, 1)) (d4 : decode M.bytes (pc + 4) = .ok (.ldc is9, 2)) (d6 : decode M.bytes (pc + 6) = .ok (.invokespecial ic, 3)) (d9 : decode M.bytes (pc + 9) = .ok (.athrow, 1)) (hcat : ab_cat st = true) : AR E M d pc L st h (.inr cls) h 1 6 := by
  intro p e R s m args below meth c H locs cells slots ls mcT msT C hR hS hl b1 b2 b3 b4
  obtain ⟨cx, cb, cml, cr, cown, cw, clk, cnm, cex, cK, cSF, cf, clo, cfi, cfj⟩ := id C
  simp only [ab_thrOk, Bool.and_eq_true, decide_eq_true_eq] at hok
  obtain ⟨⟨⟨⟨k1, k2⟩, k3⟩, k4⟩, k5⟩ := hok
  have hm := ab_ats_mem hlk
  obtain ⟨f1, f2, f3, f4, f5, f6, f7, f8, f9, f10⟩ := id cSF
  obtain ⟨sa, hsa⟩ := f4 _ hstr
  have hcat := ab_cat8 (E := E) hcat
  have hat : ∀ w ∈ vx_atS "LeafCradles" ic cls ["java/lang/RuntimeException", "java/lang/Exception"], w.before args s = true := by
    intro w hw
    have h1 := List.all_eq_true.mp k1 w hw
    split at h1
    · rename_i hgw
      exact cw _ (List.mem_filter.mpr ⟨of_decide_eq_true h1, hgw⟩)
    · rcases Bool.or_eq_true _ _ ▸ h1 with h1 | h1
      · rw [of_decide_eq_true h1]
        exact (f9 _ k5).word
      · obtain ⟨q, q1, q2⟩ := List.any_eq_true.mp h1
        rw [of_decide_eq_true q2]
        exact va_Nw.use rfl (f10 q q1)
  rw [hown] at cown
  refine vx_throwS cx cb f7 cown k3 (fun n hn => ?_) (cw _ (hm _ (by simp))) (cw _ (hm _ (by simp))) hsa hat (fun w hw => ?_) f2 f3 hS (hl.1.trans cml.symm) d0 d3 d4 d6 d9 (fun x hx => ?_) (by show 2 + 3 < _; omega) (by show _ + (13 * (2 + 1) + 43) ≤ _; omega) (by omega) (by omega) clk (fun t hal hz ho => ⟨rfl, ab_R.moved hal (ab_R_more hR hex hz ho), ?_⟩) hS.2.2 (by omega) (by omega)
  · simp at hn
    rcases hn with rfl | rfl <;> decide
  · rcases List.mem_cons.mp hw with e9 | hw
    · rw [e9]; exact hg
    · rcases List.mem_cons.mp hw with e9 | hw
      · rw [e9]; exact k4
      · exact List.all_eq_true.mp k2 w hw
  · rw [cex, hh] at hx
    cases hx
  · exact ⟨Nat.le_trans hS.1 hz, fun q h1 h2 => (ho q (Nat.lt_of_lt_of_le h1 hS.1)).trans (hS.2.1 q h1 h2)⟩
theorem AR.throwSW {ic ik is9 i8 i9 : Nat} {cls text : String} (hex : E.ex = false) (hown : M.own = "LeafCradles") (hh : M.hh = []) (hok : ab_thrOk ic cls = true) (hlk : ab_ats [i8, i9] [.classLink "LeafCradles" ik cls, .initialized cls] = true) (hg : vx_ot (.classLink "LeafCradles" ik cls) = true) (hstr : ("LeafCradles", is9, text) ∈ ab_strs)
    (d0 : decode M.bytes pc = .ok (.new ik, 3)) (d3 : decode M.bytes (pc + 3) = .ok (.dup, 1)) (d4 : decode M.bytes (pc + 4) = .ok (.ldc_w is9, 3)) (d6 : decode M.bytes (pc + 7) = .ok (.invokespecial ic, 3)) (d9 : decode M.bytes (pc + 10) = .ok (.athrow, 1)) (hcat : ab_cat st = true) : AR E M d pc L st h (.inr cls) h 1 6 := by
  intro p e R s m args below meth c H locs cells slots ls mcT msT C hR hS hl b1 b2 b3 b4
  obtain ⟨cx, cb, cml, cr, cown, cw, clk, cnm, cex, cK, cSF, cf, clo, cfi, cfj⟩ := id C
  simp only [ab_thrOk, Bool.and_eq_true, decide_eq_true_eq] at hok
  obtain ⟨⟨⟨⟨k1, k2⟩, k3⟩, k4⟩, k5⟩ := hok
  have hm := ab_ats_mem hlk
  obtain ⟨f1, f2, f3, f4, f5, f6, f7, f8, f9, f10⟩ := id cSF
  obtain ⟨sa, hsa⟩ := f4 _ hstr
  have hcat := ab_cat8 (E := E) hcat
  have hat : ∀ w ∈ vx_atS "LeafCradles" ic cls ["java/lang/RuntimeException", "java/lang/Exception"], w.before args s = true := by
    intro w hw
    have h1 := List.all_eq_true.mp k1 w hw
    split at h1
    · rename_i hgw
      exact cw _ (List.mem_filter.mpr ⟨of_decide_eq_true h1, hgw⟩)
    · rcases Bool.or_eq_true _ _ ▸ h1 with h1 | h1
      · rw [of_decide_eq_true h1]
        exact (f9 _ k5).word
      · obtain ⟨q, q1, q2⟩ := List.any_eq_true.mp h1
        rw [of_decide_eq_true q2]
        exact va_Nw.use rfl (f10 q q1)
  rw [hown] at cown
  refine vx_throwSW cx cb f7 cown k3 (fun n hn => ?_) (cw _ (hm _ (by simp))) (cw _ (hm _ (by simp))) hsa hat (fun w hw => ?_) f2 f3 hS (hl.1.trans cml.symm) d0 d3 d4 d6 d9 (fun x hx => ?_) (by show 2 + 3 < _; omega) (by show _ + (13 * (2 + 1) + 43) ≤ _; omega) (by omega) (by omega) clk (fun t hal hz ho => ⟨rfl, ab_R.moved hal (ab_R_more hR hex hz ho), ?_⟩) hS.2.2 (by omega) (by omega)
  · simp at hn
    rcases hn with rfl | rfl <;> decide
  · rcases List.mem_cons.mp hw with e9 | hw
    · rw [e9]; exact hg
    · rcases List.mem_cons.mp hw with e9 | hw
      · rw [e9]; exact k4
      · exact List.all_eq_true.mp k2 w hw
  · rw [cex, hh] at hx
    cases hx
  · exact ⟨Nat.le_trans hS.1 hz, fun q h1 h2 => (ho q (Nat.lt_of_lt_of_le h1 hS.1)).trans (hS.2.1 q h1 h2)⟩
end NEW
end
section
theorem nI_p1 (n : Nat) : nI (n + 1) - nI 1 = nI n := nI_pred n
theorem i_m1 (x : Int32) : x + (-1) = x - nI 1 := by rw [Int32.sub_eq_add_neg]; rfl
/-! rules in the form that the walks use -/
section WK
variable {E : AE} {M Mc : AM} {d pc : Nat} {L : AL} {st rest : List Value} {h h1 : AH} {o : AR0} {h' : AH} {mc ms mc1 ms1 : Nat} {idx : Nat} {is : List Nat} {av : List Value} {En : String}
theorem AR.run {xs : List AI} (hx : ab_oks M xs = true) (pc' : Nat) (L' : AL) (st' : List Value) (h1 : AH) (Ps : List Prop) (hs : ab_run xs pc L st h = some (Ps, (pc', L', st'), h1)) (hp : ab_all Ps) (k : AR E M d pc' L' st' h1 o h' mc ms) : AR E M d pc L st h o h' mc ms := ab_run_ok k hx hs hp
theorem AR.cast {L' : AL} {st' : List Value} {h1 : AH} (hL : L = L') (hst : st = st') (hh : h = h1) (k : AR E M d pc L' st' h1 o h' mc ms) : AR E M d pc L st h o h' mc ms := by subst hL; subst hst; subst hh; exact k
def ab_lsub : AL → AL → Prop
  | [], _ => True
  | none :: r, _ :: s => ab_lsub r s
  | some v :: r, w :: s => w = some v ∧ ab_lsub r s
  | _ :: _, [] => False
theorem ab_lsub_get : ∀ {L' L : AL}, ab_lsub L' L → ∀ (i : Nat) (v : Value), L'[i]? = some (some v) → L[i]? = some (some v)
  | [], _, _, i, v, h => by simp at h
  | none :: r, _ :: s, hs, i, v, h => by
    cases i with
    | zero => simp at h
    | succ i => exact ab_lsub_get (L' := r) (L := s) hs i v h
  | some w :: r, x :: s, hs, i, v, h => by
    cases i with
    | zero => simp at h; subst h; exact congrArg some hs.1
    | succ i => exact ab_lsub_get (L' := r) (L := s) hs.2 i v h
  | _ :: _, [], hs, i, v, h => by simp [ab_lsub] at hs
/-- some locals are forgotten -/
theorem AR.drop {L' : AL} (hL : ab_lsub L' L) (k : AR E M d pc L' st h o h' mc ms) : AR E M d pc L st h o h' mc ms := by
  intro p e R s m args below meth c H locs cells slots ls mcT msT C hR hS hl b1 b2 b3 b4
  exact k p e R s m args below meth c H locs cells slots ls mcT msT C hR hS (ab_has_of hl fun q hq => by
    obtain ⟨v, h1, h2⟩ := ab_lvs_mem.mp hq
    exact ab_lvs_mem.mpr ⟨v, ab_lsub_get hL _ _ h1, h2⟩) b1 b2 b3 b4
theorem AR.end' {o1 : AR0} {h1 : AH} (ho : o1 = o) (hh : h1 = h') (k : AR E M d pc L st h o1 h1 mc ms) : AR E M d pc L st h o h' mc ms := by subst ho; subst hh; exact k
theorem AR.room {mc1 ms1 : Nat} (h1 : mc1 ≤ mc) (h2 : ms1 ≤ ms) (k : AR E M d pc L st h o h' mc1 ms1) : AR E M d pc L st h o h' mc ms := by
  intro p e R s m args below meth c H locs cells slots ls mcT msT C hR hS hl b1 b2 b3 b4
  exact k p e R s m args below meth c H locs cells slots ls mcT msT C hR hS hl (by omega) (by omega) b3 b4
theorem AR.top {x y : Int32} (hxy : x = y) (k : AR E M d pc L (.int y :: st) h o h' mc ms) : AR E M d pc L (.int x :: st) h o h' mc ms := by subst hxy; exact k
theorem AR.ald {n x e q : Nat} {f : Nat → Int32} {i : Int32} (hx : ab_ok M (pc, .iaload, 1, n, n, n, .null) = true) (hi : i = nI e) (hg : ab_get h q = some (.inl (.inl (x, f)))) (he : e < x) (hm : x < 2147483648) (k : AR E M d (pc + 1) L (.int (f e) :: st) h o h' mc ms) : AR E M d pc L (.int i :: .ref q :: st) h o h' mc ms := by
  subst hi
  have e1 : (nI e).toNatClampNeg = e := nI_clamp (by omega)
  refine ab_step_ok hx (Ps := [vp_in (nI e) x]) (pc' := pc + 1) (L' := L) (st' := .int (f e) :: st) (h1 := h) ?_ (vp_in_nI he (by omega)) k
  simp only [ab_step, ab_ald, hg, e1]
theorem AR.ast {n x e q : Nat} {f : Nat → Int32} {i v : Int32} (hx : ab_ok M (pc, .iastore, 1, n, n, n, .null) = true) (hi : i = nI e) (hg : ab_get h q = some (.inl (.inl (x, f)))) (hq : Nat.beq (q / 4096) 0 = false) (he : e < x) (hm : x < 2147483648) (hh : ab_set h q (.inl (.inl (x, upd f e v))) = h1) (k : AR E M d (pc + 1) L st h1 o h' mc ms) : AR E M d pc L (.int v :: .int i :: .ref q :: st) h o h' mc ms := by
  subst hi
  subst hh
  have e1 : (nI e).toNatClampNeg = e := nI_clamp (by omega)
  refine ab_step_ok hx (Ps := [vp_in (nI e) x]) (pc' := pc + 1) (L' := L) (st' := st) (h1 := ab_set h q (.inl (.inl (x, upd f e v)))) ?_ (vp_in_nI he (by omega)) k
  simp only [ab_step, ab_ast, hg, hq, e1]
theorem AR.eq2N {off : Int} {tgt : Nat} {x y : Int32} {a b : Nat} (hd : decode M.bytes pc = .ok (.if_icmp .eq off, 3)) (ht : (pc : Int) + off = (tgt : Int)) (hx : x = nI a) (hy : y = nI b) (ha : a < 2147483648) (hb : b < 2147483648) (kt : a = b → AR E M d tgt L st h o h' mc ms) (kf : ¬ a = b → AR E M d (pc + 3) L st h o h' mc ms) : AR E M d pc L (.int y :: .int x :: st) h o h' mc ms := by
  subst hx
  subst hy
  exact AR.eq2 hd ht (fun z => kt ((nI_eq ha hb).mp z)) (fun z => kf (fun q => z ((nI_eq ha hb).mpr q)))
theorem AR.eqN {off : Int} {tgt : Nat} {x : Int32} {a : Nat} (hd : decode M.bytes pc = .ok (.ifCond .eq off, 3)) (ht : (pc : Int) + off = (tgt : Int)) (hx : x = nI a) (ha : a < 2147483648) (kt : a = 0 → AR E M d tgt L st h o h' mc ms) (kf : ¬ a = 0 → AR E M d (pc + 3) L st h o h' mc ms) : AR E M d pc L (.int x :: st) h o h' mc ms := by
  subst hx
  exact AR.eq hd ht (fun z => kt ((nI_eq ha (by decide)).mp z)) (fun z => kf (fun q => z ((nI_eq (b := 0) ha (by decide)).mpr q)))
theorem AR.ne2N {off : Int} {tgt : Nat} {x y : Int32} {a b : Nat} (hd : decode M.bytes pc = .ok (.if_icmp .ne off, 3)) (ht : (pc : Int) + off = (tgt : Int)) (hx : x = nI a) (hy : y = nI b) (ha : a < 2147483648) (hb : b < 2147483648) (kt : ¬ a = b → AR E M d tgt L st h o h' mc ms) (kf : a = b → AR E M d (pc + 3) L st h o h' mc ms) : AR E M d pc L (.int y :: .int x :: st) h o h' mc ms := by
  subst hx
  subst hy
  exact AR.ne2 hd ht (fun z => kt (fun q => z ((nI_eq ha hb).mpr q))) (fun z => kf ((nI_eq ha hb).mp z))
theorem AR.neN {off : Int} {tgt : Nat} {x : Int32} {a : Nat} (hd : decode M.bytes pc = .ok (.ifCond .ne off, 3)) (ht : (pc : Int) + off = (tgt : Int)) (hx : x = nI a) (ha : a < 2147483648) (kt : ¬ a = 0 → AR E M d tgt L st h o h' mc ms) (kf : a = 0 → AR E M d (pc + 3) L st h o h' mc ms) : AR E M d pc L (.int x :: st) h o h' mc ms := by
  subst hx
  exact AR.ne hd ht (fun z => kt (fun q => z ((nI_eq (b := 0) ha (by decide)).mpr q))) (fun z => kf ((nI_eq ha (by decide)).mp z))
theorem AR.lt2N {off : Int} {tgt : Nat} {x y : Int32} {a b : Nat} (hd : decode M.bytes pc = .ok (.if_icmp .lt off, 3)) (ht : (pc : Int) + off = (tgt : Int)) (hx : x = nI a) (hy : y = nI b) (ha : a < 2147483648) (hb : b < 2147483648) (kt : a < b → AR E M d tgt L st h o h' mc ms) (kf : b ≤ a → AR E M d (pc + 3) L st h o h' mc ms) : AR E M d pc L (.int y :: .int x :: st) h o h' mc ms := by
  subst hx
  subst hy
  exact AR.lt2 hd ht (fun z => kt ((nI_ltI ha hb).mp z)) (fun z => kf (by have := mt (nI_ltI ha hb).mpr z; omega))
theorem AR.ltN {off : Int} {tgt : Nat} {x : Int32} {a : Nat} (hd : decode M.bytes pc = .ok (.ifCond .lt off, 3)) (ht : (pc : Int) + off = (tgt : Int)) (hx : x = nI a) (ha : a < 2147483648) (kt : False → AR E M d tgt L st h o h' mc ms) (kf : True → AR E M d (pc + 3) L st h o h' mc ms) : AR E M d pc L (.int x :: st) h o h' mc ms := by
  subst hx
  exact AR.lt hd ht (fun z => kt (by have := (nI_ltI (b := 0) ha (by decide)).mp z; first | trivial | omega)) (fun z => kf (by have := mt (nI_ltI (b := 0) ha (by decide)).mpr z; first | trivial | omega))
theorem AR.ge2N {off : Int} {tgt : Nat} {x y : Int32} {a b : Nat} (hd : decode M.bytes pc = .ok (.if_icmp .ge off, 3)) (ht : (pc : Int) + off = (tgt : Int)) (hx : x = nI a) (hy : y = nI b) (ha : a < 2147483648) (hb : b < 2147483648) (kt : b ≤ a → AR E M d tgt L st h o h' mc ms) (kf : a < b → AR E M d (pc + 3) L st h o h' mc ms) : AR E M d pc L (.int y :: .int x :: st) h o h' mc ms := by
  subst hx
  subst hy
  exact AR.ge2 hd ht (fun z => kt ((nI_leI hb ha).mp z)) (fun z => kf (by have := mt (nI_leI hb ha).mpr z; omega))
theorem AR.geN {off : Int} {tgt : Nat} {x : Int32} {a : Nat} (hd : decode M.bytes pc = .ok (.ifCond .ge off, 3)) (ht : (pc : Int) + off = (tgt : Int)) (hx : x = nI a) (ha : a < 2147483648) (kt : True → AR E M d tgt L st h o h' mc ms) (kf : False → AR E M d (pc + 3) L st h o h' mc ms) : AR E M d pc L (.int x :: st) h o h' mc ms := by
  subst hx
  exact AR.ge hd ht (fun z => kt (by have := (nI_leI (a := 0) (by decide) ha).mp z; first | trivial | omega)) (fun z => kf (by have := mt (nI_leI (a := 0) (by decide) ha).mpr z; first | trivial | omega))
theorem AR.gt2N {off : Int} {tgt : Nat} {x y : Int32} {a b : Nat} (hd : decode M.bytes pc = .ok (.if_icmp .gt off, 3)) (ht : (pc : Int) + off = (tgt : Int)) (hx : x = nI a) (hy : y = nI b) (ha : a < 2147483648) (hb : b < 2147483648) (kt : b < a → AR E M d tgt L st h o h' mc ms) (kf : a ≤ b → AR E M d (pc + 3) L st h o h' mc ms) : AR E M d pc L (.int y :: .int x :: st) h o h' mc ms := by
  subst hx
  subst hy
  exact AR.gt2 hd ht (fun z => kt ((nI_ltI hb ha).mp z)) (fun z => kf (by have := mt (nI_ltI hb ha).mpr z; omega))
theorem AR.gtN {off : Int} {tgt : Nat} {x : Int32} {a : Nat} (hd : decode M.bytes pc = .ok (.ifCond .gt off, 3)) (ht : (pc : Int) + off = (tgt : Int)) (hx : x = nI a) (ha : a < 2147483648) (kt : 0 < a → AR E M d tgt L st h o h' mc ms) (kf : a = 0 → AR E M d (pc + 3) L st h o h' mc ms) : AR E M d pc L (.int x :: st) h o h' mc ms := by
  subst hx
  exact AR.gt hd ht (fun z => kt (by have := (nI_ltI (a := 0) (by decide) ha).mp z; first | trivial | omega)) (fun z => kf (by have := mt (nI_ltI (a := 0) (by decide) ha).mpr z; first | trivial | omega))
theorem AR.le2N {off : Int} {tgt : Nat} {x y : Int32} {a b : Nat} (hd : decode M.bytes pc = .ok (.if_icmp .le off, 3)) (ht : (pc : Int) + off = (tgt : Int)) (hx : x = nI a) (hy : y = nI b) (ha : a < 2147483648) (hb : b < 2147483648) (kt : a ≤ b → AR E M d tgt L st h o h' mc ms) (kf : b < a → AR E M d (pc + 3) L st h o h' mc ms) : AR E M d pc L (.int y :: .int x :: st) h o h' mc ms := by
  subst hx
  subst hy
  exact AR.le2 hd ht (fun z => kt ((nI_leI ha hb).mp z)) (fun z => kf (by have := mt (nI_leI ha hb).mpr z; omega))
theorem AR.leN {off : Int} {tgt : Nat} {x : Int32} {a : Nat} (hd : decode M.bytes pc = .ok (.ifCond .le off, 3)) (ht : (pc : Int) + off = (tgt : Int)) (hx : x = nI a) (ha : a < 2147483648) (kt : a = 0 → AR E M d tgt L st h o h' mc ms) (kf : 0 < a → AR E M d (pc + 3) L st h o h' mc ms) : AR E M d pc L (.int x :: st) h o h' mc ms := by
  subst hx
  exact AR.le hd ht (fun z => kt (by have := (nI_leI (b := 0) ha (by decide)).mp z; first | trivial | omega)) (fun z => kf (by have := mt (nI_leI (b := 0) ha (by decide)).mpr z; first | trivial | omega))
theorem AR.callS1 {v : Value} (av rest : List Value) (hk : ab_lkS M.own idx Mc av.length is = true) (hd : decode M.bytes pc = .ok (.invokestatic idx, 3)) (hc : CT E Mc d (av) h (.inl (some v)) h1 0 0) (hst : st = av.reverse ++ rest) (hcat : ab_cat rest = true) (k : AR E M (d + 1) (pc + 3) L (v :: rest) h1 o h' mc ms) : AR E M (d + 1) pc L st h o h' mc ms := by
  have q9 := AR.callS (rest := rest) hk hd hc hst hcat k
  rwa [Nat.zero_add, Nat.zero_add] at q9
theorem AR.callS0 (av rest : List Value) (hk : ab_lkS M.own idx Mc av.length is = true) (hd : decode M.bytes pc = .ok (.invokestatic idx, 3)) (hc : CT E Mc d (av) h (.inl (none)) h1 0 0) (hst : st = av.reverse ++ rest) (hcat : ab_cat rest = true) (k : AR E M (d + 1) (pc + 3) L (rest) h1 o h' mc ms) : AR E M (d + 1) pc L st h o h' mc ms := by
  have q9 := AR.callS (rest := rest) hk hd hc hst hcat k
  rwa [Nat.zero_add, Nat.zero_add] at q9
theorem AR.callSx (av rest : List Value) (hk : ab_lkS M.own idx Mc av.length is = true) (hd : decode M.bytes pc = .ok (.invokestatic idx, 3)) (hc : CT E Mc d (av) h (.inr En) h1 mc1 ms1) (hst : st = av.reverse ++ rest) (hcat : ab_cat rest = true) (hh : M.hh = []) : AR E M (d + 1) pc L st h (.inr En) h1 mc1 ms1 := AR.callSX (mc := 0) (ms := 0) (rest := rest) hk hd hc hst hcat (ARX.out hh)
theorem AR.callV1 {v : Value} (q : Nat) {ci : Nat} {fs : List Value} (av rest : List Value) (hk : ab_lkV M.own idx Mc av.length is = true) (hd : decode M.bytes pc = .ok (.invokevirtual idx, 3)) (hg : ab_get h q = some (.inr (ci, fs))) (hci : (vwCl[ci]?).map (·.1) = some Mc.y.cls) (hc : CT E Mc d (.ref q :: av) h (.inl (some v)) h1 0 0) (hst : st = av.reverse ++ .ref q :: rest) (hcat : ab_cat rest = true) (k : AR E M (d + 1) (pc + 3) L (v :: rest) h1 o h' mc ms) : AR E M (d + 1) pc L st h o h' mc ms := by
  have q9 := AR.callV (rest := rest) hk hd hg hci hc hst hcat k
  rwa [Nat.zero_add, Nat.zero_add] at q9
theorem AR.callV0 (q : Nat) {ci : Nat} {fs : List Value} (av rest : List Value) (hk : ab_lkV M.own idx Mc av.length is = true) (hd : decode M.bytes pc = .ok (.invokevirtual idx, 3)) (hg : ab_get h q = some (.inr (ci, fs))) (hci : (vwCl[ci]?).map (·.1) = some Mc.y.cls) (hc : CT E Mc d (.ref q :: av) h (.inl (none)) h1 0 0) (hst : st = av.reverse ++ .ref q :: rest) (hcat : ab_cat rest = true) (k : AR E M (d + 1) (pc + 3) L (rest) h1 o h' mc ms) : AR E M (d + 1) pc L st h o h' mc ms := by
  have q9 := AR.callV (rest := rest) hk hd hg hci hc hst hcat k
  rwa [Nat.zero_add, Nat.zero_add] at q9
theorem AR.callVx (q : Nat) {ci : Nat} {fs : List Value} (av rest : List Value) (hk : ab_lkV M.own idx Mc av.length is = true) (hd : decode M.bytes pc = .ok (.invokevirtual idx, 3)) (hg : ab_get h q = some (.inr (ci, fs))) (hci : (vwCl[ci]?).map (·.1) = some Mc.y.cls) (hc : CT E Mc d (.ref q :: av) h (.inr En) h1 mc1 ms1) (hst : st = av.reverse ++ .ref q :: rest) (hcat : ab_cat rest = true) (hh : M.hh = []) : AR E M (d + 1) pc L st h (.inr En) h1 mc1 ms1 := AR.callVX (mc := 0) (ms := 0) (rest := rest) hk hd hg hci hc hst hcat (ARX.out hh)
theorem AR.retI {v w : Int32} (hd : decode M.bytes pc = .ok (.ireturn, 1)) (hr : M.ret = some .int) (hv : v = w) (hh : h = h') : AR E M d pc L [.int v] h (.inl (some (.int w))) h' mc ms := by subst hv; subst hh; exact AR.reti hd hr
theorem AR.retZ {v w : Int32} (hd : decode M.bytes pc = .ok (.ireturn, 1)) (hr : M.ret = some .boolean) (hz : v = 0 ∨ v = 1) (hv : v = w) (hh : h = h') : AR E M d pc L [.int v] h (.inl (some (.int w))) h' mc ms := by subst hv; subst hh; exact AR.retz hd hr hz
theorem AR.retL {v w : Int64} (hd : decode M.bytes pc = .ok (.lreturn, 1)) (hr : M.ret = some .long) (hv : v = w) (hh : h = h') : AR E M d pc L [.long v] h (.inl (some (.long w))) h' mc ms := by subst hv; subst hh; exact AR.retl hd hr
theorem AR.retD {v w : UInt64} (hd : decode M.bytes pc = .ok (.dreturn, 1)) (hr : M.ret = some .double) (hv : v = w) (hh : h = h') : AR E M d pc L [.double v] h (.inl (some (.double w))) h' mc ms := by subst hv; subst hh; exact AR.retd hd hr
theorem AR.retV (hd : decode M.bytes pc = .ok (.return_, 1)) (hr : M.ret = none) (hh : h = h') : AR E M d pc L [] h (.inl none) h' mc ms := by subst hh; exact AR.retv hd hr
/-- a counted loop at pc -/
theorem AR.loopN (n : Nat) (Lf : Nat → AL) (hf : Nat → AH) (I : Nat → Prop) (hs : ∀ j, j < n → I j → (I (j + 1) → AR E M d pc (Lf (j + 1)) st (hf (j + 1)) o h' mc ms) → AR E M d pc (Lf j) st (hf j) o h' mc ms) (he : I n → AR E M d pc (Lf n) st (hf n) o h' mc ms) : ∀ (j0 : Nat), j0 ≤ n → I j0 → AR E M d pc (Lf j0) st (hf j0) o h' mc ms := by
  intro j0 hj hI
  obtain ⟨k, hk⟩ : ∃ k, n = j0 + k := ⟨n - j0, by omega⟩
  induction k generalizing j0 with
  | zero =>
    have : j0 = n := by omega
    subst this
    exact he hI
  | succ k ih => exact hs j0 (by omega) hI (fun hI2 => ih (j0 + 1) (by omega) hI2 (by omega))
/-- a loop that counts down to 0 -/
theorem AR.loopD (Lf : Nat → AL) (hf : Nat → AH) (I : Nat → Prop) (hs : ∀ j, I (j + 1) → (I j → AR E M d pc (Lf j) st (hf j) o h' mc ms) → AR E M d pc (Lf (j + 1)) st (hf (j + 1)) o h' mc ms) (he : I 0 → AR E M d pc (Lf 0) st (hf 0) o h' mc ms) : ∀ (j0 : Nat), I j0 → AR E M d pc (Lf j0) st (hf j0) o h' mc ms := by
  intro j0
  induction j0 with
  | zero => exact he
  | succ j ih => exact fun hI => hs j hI (fun hI2 => ih hI2)
end WK
end
section
/-! the heap of this claim: old arrays; the archive and its tables; the text; the plan; the law's nine arrays; arrays made and left; what is made now -/
abbrev hp (ol ar te pl la xs tl : List AC) : AH := [ol, ar, te, pl, la, xs, tl]
def tu (T : Nat → Nat → Int32) (j : Nat) (f : Nat → Int32) : Nat → Nat → Int32 := fun i => if i = j then f else T i
/-- the law's arrays: volumes, leaves, how often scanned, bars, cradles, carriers, log, settings, counts -/
def la_ (vo ls ln lb cr ca lo st cc : Nat → Int32) : List AC :=
  [.inl (.inl (28, vo)), .inl (.inl (32, ls)), .inl (.inl (32, ln)), .inl (.inl (32, lb)), .inl (.inl (8, cr)), .inl (.inl (8, ca)), .inl (.inl (60, lo)), .inl (.inl (4, st)), .inl (.inl (7, cc))]
/-- copies of six of them -/
def co_ (vo ls ln cr ca cc : Nat → Int32) : List (Nat × (Nat → Int32)) := [(28, vo), (32, ls), (32, ln), (8, cr), (8, ca), (7, cc)]
/-- arrays of ints -/
def xs_ (l : List (Nat × (Nat → Int32))) : List AC := l.map (fun a => .inl (.inl a))
def ar (T K : Nat → Nat → Int32) (os sc : Int32) : List AC :=
  [.inr (4, [.ref 4097, .ref 8192, .ref 12288]), .inr (0, [.ref 4098, .ref 4101, .ref 4104, .ref 4107, .ref 4110, .ref 4113, .int os, .int sc]),
   .inr (3, [.int (nI 13), .int (nI 7), .ref 4099, .ref 4100]), .inl (.inl (91, T 0)), .inl (.inl (546, K 0)),
   .inr (3, [.int (nI 13), .int (nI 120), .ref 4102, .ref 4103]), .inl (.inl (1560, T 1)), .inl (.inl (9360, K 1)),
   .inr (3, [.int (nI 5), .int (nI 5), .ref 4105, .ref 4106]), .inl (.inl (25, T 2)), .inl (.inl (150, K 2)),
   .inr (3, [.int (nI 3), .int (nI 4), .ref 4108, .ref 4109]), .inl (.inl (12, T 3)), .inl (.inl (72, K 3)),
   .inr (3, [.int (nI 60), .int (nI 5), .ref 4111, .ref 4112]), .inl (.inl (300, T 4)), .inl (.inl (1800, K 4)),
   .inr (3, [.int (nI 1), .int (nI 11), .ref 4114, .ref 4115]), .inl (.inl (11, T 5)), .inl (.inl (66, K 5))]
def te_ (tc tp : Nat → Int32) (tl_ tn trd tv tdg tf tla : Int32) : List AC :=
  [.inr (1, [.ref 8193, .ref 8194, .int tl_, .int tn, .int trd, .int tv, .int tdg, .int tf, .int tla]), .inl (.inl (60, tc)), .inr (3, [.int (nI 10), .int (nI 3), .ref 8195, .ref 8196]), .inl (.inl (30, tp)), .inl (.inl (0, fun _ => 0))]
def pl (pg ph pc : Nat → Int32) (pm : Int32) : List AC :=
  [.inr (2, [.ref 12289, .ref 12292, .ref 12295, .int pm]),
   .inr (3, [.int (nI 4), .int (nI 12), .ref 12290, .ref 12291]), .inl (.inl (48, pg)), .inl (.inl (0, fun _ => 0)),
   .inr (3, [.int (nI 1), .int (nI 5), .ref 12293, .ref 12294]), .inl (.inl (5, ph)), .inl (.inl (0, fun _ => 0)),
   .inr (3, [.int (nI 2), .int (nI 4), .ref 12296, .ref 12297]), .inl (.inl (8, pc)), .inl (.inl (0, fun _ => 0))]
abbrev M_X0_init : AM := (⟨"LeafCradles$Archive", "<init>", "()V"⟩, prog_2_method_1_code, 1, none, [])
abbrev M_X0_number : AM := (⟨"LeafCradles$Archive", "number", "(I)I"⟩, prog_2_method_2_code, 2, (some .int), [])
abbrev M_X0_replaceNumber : AM := (⟨"LeafCradles$Archive", "replaceNumber", "(II)I"⟩, prog_2_method_3_code, 4, (some .int), [])
abbrev M_X0_save : AM := (⟨"LeafCradles$Archive", "save", "()V"⟩, prog_2_method_5_code, 2, none, [])
abbrev M_X0_newVolume : AM := (⟨"LeafCradles$Archive", "newVolume", "(IIII)I"⟩, prog_2_method_7_code, 6, (some .int), [])
abbrev M_X0_newCradle : AM := (⟨"LeafCradles$Archive", "newCradle", "(II)I"⟩, prog_2_method_8_code, 4, (some .int), [])
abbrev M_X0_newCarrier : AM := (⟨"LeafCradles$Archive", "newCarrier", "()I"⟩, prog_2_method_9_code, 2, (some .int), [])
abbrev M_X0_volumeFact : AM := (⟨"LeafCradles$Archive", "volumeFact", "(II)I"⟩, prog_2_method_10_code, 3, (some .int), [])
abbrev M_X0_leafFact : AM := (⟨"LeafCradles$Archive", "leafFact", "(III)I"⟩, prog_2_method_11_code, 4, (some .int), [])
abbrev M_X0_cradleFact : AM := (⟨"LeafCradles$Archive", "cradleFact", "(II)I"⟩, prog_2_method_12_code, 3, (some .int), [])
abbrev M_X0_carrierFact : AM := (⟨"LeafCradles$Archive", "carrierFact", "(II)I"⟩, prog_2_method_13_code, 3, (some .int), [])
abbrev M_X0_entryFact : AM := (⟨"LeafCradles$Archive", "entryFact", "(II)I"⟩, prog_2_method_14_code, 3, (some .int), [])
abbrev M_X0_total : AM := (⟨"LeafCradles$Archive", "total", "(I)I"⟩, prog_2_method_15_code, 2, (some .int), [])
abbrev M_X0_sumOverVolumes : AM := (⟨"LeafCradles$Archive", "sumOverVolumes", "(I)I"⟩, prog_2_method_16_code, 4, (some .int), [])
abbrev M_X0_shareOfOpenLeaves : AM := (⟨"LeafCradles$Archive", "shareOfOpenLeaves", "()D"⟩, prog_2_method_17_code, 2, (some .double), [])
abbrev M_X0_freeCradles : AM := (⟨"LeafCradles$Archive", "freeCradles", "()I"⟩, prog_2_method_18_code, 3, (some .int), [])
abbrev M_X0_leavesInCondition : AM := (⟨"LeafCradles$Archive", "leavesInCondition", "(II)I"⟩, prog_2_method_19_code, 5, (some .int), [])
abbrev M_X0_openLeaves : AM := (⟨"LeafCradles$Archive", "openLeaves", "(I)I"⟩, prog_2_method_20_code, 4, (some .int), [])
abbrev M_X0_scansOf : AM := (⟨"LeafCradles$Archive", "scansOf", "(I)I"⟩, prog_2_method_21_code, 4, (some .int), [])
abbrev M_X0_isOpen : AM := (⟨"LeafCradles$Archive", "isOpen", "(II)Z"⟩, prog_2_method_22_code, 4, (some .boolean), [])
abbrev M_X0_nextLeaf : AM := (⟨"LeafCradles$Archive", "nextLeaf", "(I)I"⟩, prog_2_method_23_code, 5, (some .int), [])
abbrev M_X0_isFree : AM := (⟨"LeafCradles$Archive", "isFree", "(I)Z"⟩, prog_2_method_24_code, 2, (some .boolean), [])
abbrev M_X0_isInItsBox : AM := (⟨"LeafCradles$Archive", "isInItsBox", "(I)Z"⟩, prog_2_method_25_code, 2, (some .boolean), [])
abbrev M_X0_isLargeEnough : AM := (⟨"LeafCradles$Archive", "isLargeEnough", "(II)Z"⟩, prog_2_method_26_code, 3, (some .boolean), [])
abbrev M_X0_isGentleEnough : AM := (⟨"LeafCradles$Archive", "isGentleEnough", "(II)Z"⟩, prog_2_method_27_code, 3, (some .boolean), [])
abbrev M_X0_reasonOfRest : AM := (⟨"LeafCradles$Archive", "reasonOfRest", "(I)I"⟩, prog_2_method_28_code, 3, (some .int), [])
abbrev M_X0_reasonAgainst : AM := (⟨"LeafCradles$Archive", "reasonAgainst", "(III)I"⟩, prog_2_method_29_code, 4, (some .int), [])
abbrev M_X0_mayTakeBack : AM := (⟨"LeafCradles$Archive", "mayTakeBack", "(II)Z"⟩, prog_2_method_30_code, 3, (some .boolean), [])
abbrev M_X0_placeAt : AM := (⟨"LeafCradles$Archive", "placeAt", "(II)I"⟩, prog_2_method_31_code, 4, (some .int), [])
abbrev M_X0_minutesOfWay : AM := (⟨"LeafCradles$Archive", "minutesOfWay", "(II)I"⟩, prog_2_method_32_code, 4, (some .int), [])
abbrev M_X0_quickestCarrier : AM := (⟨"LeafCradles$Archive", "quickestCarrier", "(I)I"⟩, prog_2_method_33_code, 6, (some .int), [])
abbrev M_X0_startBringing : AM := (⟨"LeafCradles$Archive", "startBringing", "(III)I"⟩, prog_2_method_34_code, 4, (some .int), [])
abbrev M_X0_startTakingBack : AM := (⟨"LeafCradles$Archive", "startTakingBack", "(II)I"⟩, prog_2_method_35_code, 4, (some .int), [])
abbrev M_X0_startWay : AM := (⟨"LeafCradles$Archive", "startWay", "(III)I"⟩, prog_2_method_36_code, 6, (some .int), [])
abbrev M_X0_letMinutesPass : AM := (⟨"LeafCradles$Archive", "letMinutesPass", "(I)I"⟩, prog_2_method_37_code, 6, (some .int), [])
abbrev M_X0_workFor : AM := (⟨"LeafCradles$Archive", "workFor", "(III)I"⟩, prog_2_method_38_code, 9, (some .int), [])
abbrev M_X0_scan : AM := (⟨"LeafCradles$Archive", "scan", "(II)V"⟩, prog_2_method_39_code, 3, none, [])
abbrev M_X0_findFaulty : AM := (⟨"LeafCradles$Archive", "findFaulty", "(II)I"⟩, prog_2_method_40_code, 3, (some .int), [])
abbrev M_X0_barLeaves : AM := (⟨"LeafCradles$Archive", "barLeaves", "(IIII)V"⟩, prog_2_method_41_code, 6, none, [])
abbrev M_X0_barredLeaves : AM := (⟨"LeafCradles$Archive", "barredLeaves", "(I)I"⟩, prog_2_method_42_code, 4, (some .int), [])
abbrev M_X0_copyForTrial : AM := (⟨"LeafCradles$Archive", "copyForTrial", "(II)V"⟩, prog_2_method_43_code, 3, none, [])
abbrev M_X0_scansIfThere : AM := (⟨"LeafCradles$Archive", "scansIfThere", "(III)I"⟩, prog_2_method_44_code, 4, (some .int), [])
abbrev M_X0_scansOnCradleIn : AM := (⟨"LeafCradles$Archive", "scansOnCradleIn", "(II)I"⟩, prog_2_method_45_code, 4, (some .int), [])
abbrev M_X0_scansIn : AM := (⟨"LeafCradles$Archive", "scansIn", "(I)I"⟩, prog_2_method_46_code, 4, (some .int), [])
abbrev M_X0_minutesUntilDone : AM := (⟨"LeafCradles$Archive", "minutesUntilDone", "()I"⟩, prog_2_method_47_code, 6, (some .int), [])
abbrev M_X1_init : AM := (⟨"LeafCradles$BarText", "<init>", "()V"⟩, prog_3_method_1_code, 1, none, [])
abbrev M_X1_length : AM := (⟨"LeafCradles$BarText", "length", "()I"⟩, prog_3_method_2_code, 1, (some .int), [])
abbrev M_X1_codeAt : AM := (⟨"LeafCradles$BarText", "codeAt", "(I)I"⟩, prog_3_method_3_code, 2, (some .int), [])
abbrev M_X1_add : AM := (⟨"LeafCradles$BarText", "add", "(I)I"⟩, prog_3_method_4_code, 2, (some .int), [])
abbrev M_X1_empty : AM := (⟨"LeafCradles$BarText", "empty", "()I"⟩, prog_3_method_5_code, 2, (some .int), [])
abbrev M_X1_read : AM := (⟨"LeafCradles$BarText", "read", "()I"⟩, prog_3_method_6_code, 2, (some .int), [])
abbrev M_X1_isComplete : AM := (⟨"LeafCradles$BarText", "isComplete", "()Z"⟩, prog_3_method_7_code, 1, (some .boolean), [])
abbrev M_X1_partCount : AM := (⟨"LeafCradles$BarText", "partCount", "()I"⟩, prog_3_method_8_code, 1, (some .int), [])
abbrev M_X1_partFact : AM := (⟨"LeafCradles$BarText", "partFact", "(II)I"⟩, prog_3_method_9_code, 3, (some .int), [])
abbrev M_X1_greatestLeaf : AM := (⟨"LeafCradles$BarText", "greatestLeaf", "()I"⟩, prog_3_method_10_code, 3, (some .int), [])
abbrev M_X1_begin : AM := (⟨"LeafCradles$BarText", "begin", "(I)V"⟩, prog_3_method_11_code, 2, none, [])
abbrev M_X1_accepts : AM := (⟨"LeafCradles$BarText", "accepts", "(I)Z"⟩, prog_3_method_12_code, 2, (some .boolean), [])
abbrev M_X1_acceptsDash : AM := (⟨"LeafCradles$BarText", "acceptsDash", "()Z"⟩, prog_3_method_13_code, 1, (some .boolean), [])
abbrev M_X1_acceptsColon : AM := (⟨"LeafCradles$BarText", "acceptsColon", "()Z"⟩, prog_3_method_14_code, 1, (some .boolean), [])
abbrev M_X1_acceptsComma : AM := (⟨"LeafCradles$BarText", "acceptsComma", "()Z"⟩, prog_3_method_15_code, 1, (some .boolean), [])
abbrev M_X1_acceptsDigit : AM := (⟨"LeafCradles$BarText", "acceptsDigit", "(I)Z"⟩, prog_3_method_16_code, 4, (some .boolean), [])
abbrev M_X1_leastNumber : AM := (⟨"LeafCradles$BarText", "leastNumber", "()I"⟩, prog_3_method_17_code, 1, (some .int), [])
abbrev M_X1_greatestNumber : AM := (⟨"LeafCradles$BarText", "greatestNumber", "()I"⟩, prog_3_method_18_code, 1, (some .int), [])
abbrev M_X1_beginsNumber : AM := (⟨"LeafCradles$BarText", "beginsNumber", "(III)Z"⟩, prog_3_method_19_code, 6, (some .boolean), [])
abbrev M_X1_keepPart : AM := (⟨"LeafCradles$BarText", "keepPart", "()V"⟩, prog_3_method_20_code, 1, none, [])
abbrev M_X2_init : AM := (⟨"LeafCradles$LoadPlan", "<init>", "()V"⟩, prog_4_method_1_code, 1, none, [])
abbrev M_X2_make : AM := (⟨"LeafCradles$LoadPlan", "make", "(LLeafCradles$Archive;I)V"⟩, prog_4_method_2_code, 7, none, [])
abbrev M_X2_answer : AM := (⟨"LeafCradles$LoadPlan", "answer", "(I)I"⟩, prog_4_method_3_code, 2, (some .int), [])
abbrev M_X2_gainOf : AM := (⟨"LeafCradles$LoadPlan", "gainOf", "(LLeafCradles$Archive;III)I"⟩, prog_4_method_4_code, 5, (some .int), [])
abbrev M_X2_fill : AM := (⟨"LeafCradles$LoadPlan", "fill", "(LLeafCradles$LoadPlan;III)V"⟩, prog_4_method_5_code, 6, none, [])
abbrev M_X2_note : AM := (⟨"LeafCradles$LoadPlan", "note", "(I)V"⟩, prog_4_method_6_code, 2, none, [])
abbrev M_X3_init : AM := (⟨"LeafCradles$Table", "<init>", "(III)V"⟩, prog_5_method_1_code, 4, none, [])
abbrev M_X3_bounded : AM := (⟨"LeafCradles$Table", "bounded", "(II)I"⟩, prog_5_method_2_code, 2, (some .int), [])
abbrev M_X3_at : AM := (⟨"LeafCradles$Table", "at", "(II)I"⟩, prog_5_method_3_code, 3, (some .int), [])
abbrev M_X3_put : AM := (⟨"LeafCradles$Table", "put", "(III)V"⟩, prog_5_method_4_code, 4, none, [])
abbrev M_X3_add : AM := (⟨"LeafCradles$Table", "add", "(III)V"⟩, prog_5_method_5_code, 4, none, [])
abbrev M_X3_copyRow : AM := (⟨"LeafCradles$Table", "copyRow", "(II)V"⟩, prog_5_method_6_code, 3, none, [])
abbrev M_X3_keep : AM := (⟨"LeafCradles$Table", "keep", "(I)V"⟩, prog_5_method_7_code, 2, none, [])
abbrev M_X3_hasCopy : AM := (⟨"LeafCradles$Table", "hasCopy", "(I)Z"⟩, prog_5_method_9_code, 2, (some .boolean), [])
abbrev M_X4_init : AM := (⟨"LeafCradles", "<init>", "()V"⟩, prog_1_method_1_code, 1, none, [])
abbrev M_X4_addVolume : AM := (⟨"LeafCradles", "addVolume", "(IIII)I"⟩, prog_1_method_2_code, 5, (some .int), [])
abbrev M_X4_addCradle : AM := (⟨"LeafCradles", "addCradle", "(II)I"⟩, prog_1_method_3_code, 3, (some .int), [])
abbrev M_X4_addCarrier : AM := (⟨"LeafCradles", "addCarrier", "()I"⟩, prog_1_method_4_code, 1, (some .int), [])
abbrev M_X4_set : AM := (⟨"LeafCradles", "set", "(II)I"⟩, prog_1_method_5_code, 3, (some .int), [])
abbrev M_X4_setYear : AM := (⟨"LeafCradles", "setYear", "(I)I"⟩, prog_1_method_6_code, 2, (some .int), [])
abbrev M_X4_bring : AM := (⟨"LeafCradles", "bring", "(III)I"⟩, prog_1_method_7_code, 4, (some .int), [])
abbrev M_X4_takeBack : AM := (⟨"LeafCradles", "takeBack", "(II)I"⟩, prog_1_method_8_code, 3, (some .int), [])
abbrev M_X4_pass : AM := (⟨"LeafCradles", "pass", "(I)I"⟩, prog_1_method_9_code, 2, (some .int), [])
abbrev M_X4_reject : AM := (⟨"LeafCradles", "reject", "(II)I"⟩, prog_1_method_10_code, 3, (some .int), [])
abbrev M_X4_append : AM := (⟨"LeafCradles", "append", "(I)I"⟩, prog_1_method_11_code, 2, (some .int), [])
abbrev M_X4_clearBuffer : AM := (⟨"LeafCradles", "clearBuffer", "()I"⟩, prog_1_method_12_code, 1, (some .int), [])
abbrev M_X4_bar : AM := (⟨"LeafCradles", "bar", "(I)I"⟩, prog_1_method_14_code, 5, (some .int), [])
abbrev M_X4_volume : AM := (⟨"LeafCradles", "volume", "(II)I"⟩, prog_1_method_16_code, 3, (some .int), [])
abbrev M_X4_leaf : AM := (⟨"LeafCradles", "leaf", "(III)I"⟩, prog_1_method_17_code, 4, (some .int), [])
abbrev M_X4_cradle : AM := (⟨"LeafCradles", "cradle", "(II)I"⟩, prog_1_method_18_code, 3, (some .int), [])
abbrev M_X4_carrier : AM := (⟨"LeafCradles", "carrier", "(II)I"⟩, prog_1_method_19_code, 3, (some .int), [])
abbrev M_X4_log : AM := (⟨"LeafCradles", "log", "(II)I"⟩, prog_1_method_20_code, 3, (some .int), [])
abbrev M_X4_whereAt : AM := (⟨"LeafCradles", "whereAt", "(II)I"⟩, prog_1_method_21_code, 3, (some .int), [])
abbrev M_X4_count : AM := (⟨"LeafCradles", "count", "(I)I"⟩, prog_1_method_22_code, 2, (some .int), [])
abbrev M_X4_setting : AM := (⟨"LeafCradles", "setting", "(I)I"⟩, prog_1_method_23_code, 2, (some .int), [])
abbrev M_X4_whyNot : AM := (⟨"LeafCradles", "whyNot", "(III)I"⟩, prog_1_method_24_code, 4, (some .int), [])
abbrev M_X4_ifPassed : AM := (⟨"LeafCradles", "ifPassed", "(II)I"⟩, prog_1_method_25_code, 3, (some .int), [])
abbrev M_X4_doneIn : AM := (⟨"LeafCradles", "doneIn", "()I"⟩, prog_1_method_26_code, 1, (some .int), [])
abbrev M_X4_quickest : AM := (⟨"LeafCradles", "quickest", "(I)I"⟩, prog_1_method_27_code, 2, (some .int), [])
abbrev M_X4_bestLoad : AM := (⟨"LeafCradles", "bestLoad", "(II)I"⟩, prog_1_method_28_code, 3, (some .int), [])
abbrev M_X4_openShare : AM := (⟨"LeafCradles", "openShare", "()D"⟩, prog_1_method_29_code, 1, (some .double), [])
abbrev M_X4_leastOfSetting : AM := (⟨"LeafCradles", "leastOfSetting", "(I)I"⟩, prog_1_method_38_code, 1, (some .int), [])
abbrev M_X4_greatestOfSetting : AM := (⟨"LeafCradles", "greatestOfSetting", "(I)I"⟩, prog_1_method_39_code, 1, (some .int), [])
abbrev M_X4_requireRange : AM := (⟨"LeafCradles", "requireRange", "(III)V"⟩, prog_1_method_40_code, 3, none, [])
abbrev M_X4_requireIndex : AM := (⟨"LeafCradles", "requireIndex", "(II)V"⟩, prog_1_method_41_code, 2, none, [])
abbrev M_X4_requireVolume : AM := (⟨"LeafCradles", "requireVolume", "(I)V"⟩, prog_1_method_42_code, 2, none, [])
abbrev M_X4_requireCradle : AM := (⟨"LeafCradles", "requireCradle", "(I)V"⟩, prog_1_method_43_code, 2, none, [])
abbrev M_X4_requireCarrier : AM := (⟨"LeafCradles", "requireCarrier", "(I)V"⟩, prog_1_method_44_code, 2, none, [])
abbrev M_L_cell : AM := (⟨"LeafCradlesLaw", "cell", "([II)I"⟩, method_2_code, 2, (some .int), [])
abbrev M_L_at : AM := (⟨"LeafCradlesLaw", "at", "(II)I"⟩, method_3_code, 2, (some .int), [])
abbrev M_L_abs : AM := (⟨"LeafCradlesLaw", "abs", "(I)I"⟩, method_4_code, 1, (some .int), [])
abbrev M_L_on : AM := (⟨"LeafCradlesLaw", "on", "(I[I[I)I"⟩, method_5_code, 4, (some .int), [])
abbrev M_L_next : AM := (⟨"LeafCradlesLaw", "next", "(I[I[I)I"⟩, method_6_code, 4, (some .int), [])
abbrev M_L_idle : AM := (⟨"LeafCradlesLaw", "idle", "(I[I[I[I[I)I"⟩, method_7_code, 6, (some .int), [])
abbrev M_L_minute : AM := (⟨"LeafCradlesLaw", "minute", "([I[I[I[I[I[I[I)I"⟩, method_8_code, 11, (some .int), [])
abbrev M_L_why : AM := (⟨"LeafCradlesLaw", "why", "(III[I[I[I[I[I)I"⟩, method_9_code, 8, (some .int), [])
abbrev M_L_way : AM := (⟨"LeafCradlesLaw", "way", "(II[I[I[I)I"⟩, method_10_code, 5, (some .int), [])
abbrev M_L_goes : AM := (⟨"LeafCradlesLaw", "goes", "(III[I[I[I[I[I[I)I"⟩, method_11_code, 11, (some .int), [])
abbrev M_L_volumes : AM := (⟨"LeafCradlesLaw", "volumes", "(LLeafCradles;I[I[I[I[I[I[I)Z"⟩, method_12_code, 23, (some .boolean), [])
abbrev M_L_told : AM := (⟨"LeafCradlesLaw", "told", "(LLeafCradles;I[I[I[I[I[I[I[I[I[I)Z"⟩, method_13_code, 14, (some .boolean), [])
abbrev M_L_same : AM := (⟨"LeafCradlesLaw", "same", "([I[I)V"⟩, method_14_code, 3, none, [])
abbrev M_L_scanned : AM := (⟨"LeafCradlesLaw", "scanned", "([I)I"⟩, method_15_code, 1, (some .int), [])
abbrev M_L_ahead : AM := (⟨"LeafCradlesLaw", "ahead", "(LLeafCradles;I[I[I[I[I[I[I[I)Z"⟩, method_16_code, 21, (some .boolean), [])
abbrev M_L_gain : AM := (⟨"LeafCradlesLaw", "gain", "(III[I[I[I[I[I[I)I"⟩, method_17_code, 16, (some .int), [])
abbrev M_L_loads : AM := (⟨"LeafCradlesLaw", "loads", "(LLeafCradles;I[I[I[I[I[I[I)Z"⟩, method_18_code, 15, (some .boolean), [])
abbrev M_L_year : AM := (⟨"LeafCradlesLaw", "year", "(LLeafCradles;I)Z"⟩, method_19_code, 2, (some .boolean), [])
abbrev M_L_bars : AM := (⟨"LeafCradlesLaw", "bars", "(LLeafCradles;III[I[I)Z"⟩, method_20_code, 12, (some .boolean), [])
abbrev M_L_act : AM := (⟨"LeafCradlesLaw", "act", "(LLeafCradles;III[I[I[I[I[I[I[I[I[I)Z"⟩, method_21_code, 19, (some .boolean), [])
abbrev M_L_law : AM := (⟨"LeafCradlesLaw", "law", "([I)Z"⟩, code, 15, (some .boolean), [])
end
section
theorem ru {f : Nat → Int32} {k j : Nat} {x : Int32} (h : j = k) : upd f k x j = x := by rw [h]; exact pk_us
theorem rn {f : Nat → Int32} {k j : Nat} {x : Int32} (h : j ≠ k) : upd f k x j = f j := pk_un h
/-- 1 where v lies from a to b, else 0 -/
def wi (v a b : Int32) : Int32 := if a ≤ v ∧ v ≤ b then 1 else 0
theorem wi01 (v a b : Int32) : wi v a b = 0 ∨ wi v a b = 1 := by unfold wi; split; exact Or.inr rfl; exact Or.inl rfl
def bi (p : Prop) [Decidable p] : Int32 := if p then 1 else 0
theorem bi01 (p : Prop) [Decidable p] : bi p = 0 ∨ bi p = 1 := by unfold bi; split; exact Or.inr rfl; exact Or.inl rfl
/-- a sum of n places -/
def sumF (f : Nat → Int32) : Nat → Int32
  | 0 => nI 0
  | n + 1 => sumF f n + f n
/-- the place of the first of n, from i on -/
def fi (p : Nat → Prop) [DecidablePred p] : Nat → Nat → Option Nat
  | 0, _ => none
  | n + 1, i => if p i then some i else fi p n (i + 1)
theorem fi_some {p : Nat → Prop} [DecidablePred p] : ∀ {n i q : Nat}, fi p n i = some q → i ≤ q ∧ q < i + n ∧ p q
  | 0, i, q, h => by simp [fi] at h
  | n + 1, i, q, h => by
    unfold fi at h
    split at h
    · cases h; exact ⟨Nat.le_refl _, by omega, by assumption⟩
    · have := fi_some h; exact ⟨by omega, by omega, this.2.2⟩
theorem fi_none {p : Nat → Prop} [DecidablePred p] : ∀ {n i : Nat}, fi p n i = none → ∀ q, i ≤ q → q < i + n → ¬ p q
  | 0, i, h, q, h1, h2 => by omega
  | n + 1, i, h, q, h1, h2 => by
    unfold fi at h
    split at h
    · cases h
    · rcases Nat.eq_or_lt_of_le h1 with e | e
      · subst e; assumption
      · exact fi_none h q e (by omega)
/-- NONE or a number -/
def oI : Option Nat → Int32
  | none => -1
  | some n => nI n
theorem oI_ne {o : Option Nat} (h : ¬ oI o = -1) : ∃ q, o = some q := by
  cases o with
  | none => exact absurd rfl h
  | some q => exact ⟨q, rfl⟩
theorem nI_m1 {q : Nat} (h : q < 2147483648) : ¬ nI q = -1 := by
  intro e
  have := congrArg Int32.toInt e
  rw [nI_toInt h] at this
  have h2 : (-1 : Int32).toInt = -1 := by decide
  rw [h2] at this
  omega
theorem oI_eq {o : Option Nat} (h : oI o = -1) (hb : ∀ q, o = some q → q < 2147483648) : o = none := by
  cases o with
  | none => rfl
  | some q => exact absurd h (nI_m1 (hb q rfl))
theorem oI_iff {o : Option Nat} (hb : ∀ q, o = some q → q < 2147483648) : oI o = -1 ↔ o = none := ⟨fun h => oI_eq h hb, fun h => by rw [h]; rfl⟩
/-- the volume on a cradle: the last one of n -/
def vo (z : Nat → Int32) (c : Int32) : Nat → Option Nat
  | 0 => none
  | n + 1 => if z (11 + 7 * n + 5) - nI 1 = c then some n else vo z c n
theorem vo_some {z : Nat → Int32} {c : Int32} : ∀ {n q : Nat}, vo z c n = some q → q < n ∧ z (11 + 7 * q + 5) - nI 1 = c
  | 0, q, h => by simp [vo] at h
  | n + 1, q, h => by
    unfold vo at h
    split at h
    · cases h; exact ⟨by omega, by assumption⟩
    · have := vo_some h; exact ⟨by omega, this.2⟩
theorem vo_cases (z : Nat → Int32) (c : Int32) (n : Nat) : vo z c n = none ∨ ∃ q, vo z c n = some q ∧ q < n := by
  cases h : vo z c n with
  | none => exact Or.inl rfl
  | some q => exact Or.inr ⟨q, rfl, (vo_some h).1⟩
/-- the leaf that comes next: the first faulty one, else the first that isn't scanned -/
def nlB (f : Nat → Int32) (m k : Nat) : Option Nat := match fi (fun j => f j = nI 2) m k with
  | some q => some q
  | none => fi (fun j => f j = nI 0) m k
theorem nlB_some {f : Nat → Int32} {m k q : Nat} (h : nlB f m k = some q) : k ≤ q ∧ q < k + m := by
  unfold nlB at h
  split at h
  · rename_i q' h'
    cases h
    have := fi_some h'
    exact ⟨this.1, this.2.1⟩
  · have := fi_some h
    exact ⟨this.1, this.2.1⟩
theorem nlB_2 {f : Nat → Int32} {m k : Nat} (h : f k = nI 2) : nlB f (m + 1) k = some k := by
  unfold nlB fi
  rw [if_pos h]
theorem nlB_k1 {f : Nat → Int32} {m k : Nat} (h2 : ¬ f k = nI 2) (h0 : ¬ f k = nI 0) : nlB f (m + 1) k = nlB f m (k + 1) := by
  unfold nlB
  rw [show fi (fun j => f j = nI 2) (m + 1) k = fi (fun j => f j = nI 2) m (k + 1) by rw [fi, if_neg h2], show fi (fun j => f j = nI 0) (m + 1) k = fi (fun j => f j = nI 0) m (k + 1) by rw [fi, if_neg h0]]
theorem nlB_0a {f : Nat → Int32} {m k : Nat} (h0 : f k = nI 0) (h : nlB f m (k + 1) = none) : nlB f (m + 1) k = some k := by
  have h2 : ¬ f k = nI 2 := by rw [h0]; decide
  have h3 : fi (fun j => f j = nI 2) m (k + 1) = none := by
    unfold nlB at h
    split at h
    · cases h
    · assumption
  unfold nlB
  rw [show fi (fun j => f j = nI 2) (m + 1) k = none by rw [fi, if_neg h2]; exact h3]
  dsimp only
  rw [fi, if_pos h0]
theorem nlB_0b {f : Nat → Int32} {m k q : Nat} (h0 : f k = nI 0) (h : nlB f m (k + 1) = some q) (hq : f q = nI 0) : nlB f (m + 1) k = some k := by
  have h2 : ¬ f k = nI 2 := by rw [h0]; decide
  have h3 : fi (fun j => f j = nI 2) m (k + 1) = none := by
    unfold nlB at h
    split at h
    · rename_i q' h'
      cases h
      have := (fi_some h').2.2
      rw [hq] at this
      exact absurd this (by decide)
    · assumption
  unfold nlB
  rw [show fi (fun j => f j = nI 2) (m + 1) k = none by rw [fi, if_neg h2]; exact h3]
  dsimp only
  rw [fi, if_pos h0]
theorem nlB_k2 {f : Nat → Int32} {m k q : Nat} (h0 : f k = nI 0) (h : nlB f m (k + 1) = some q) (hq : ¬ f q = nI 0) : nlB f (m + 1) k = some q := by
  have h2 : ¬ f k = nI 2 := by rw [h0]; decide
  have h3 : fi (fun j => f j = nI 2) m (k + 1) = some q := by
    unfold nlB at h
    split at h
    · rename_i q' h'
      cases h
      exact h'
    · exact absurd (fi_some h).2.2 hq
  unfold nlB
  rw [show fi (fun j => f j = nI 2) (m + 1) k = some q by rw [fi, if_neg h2]; exact h3]
abbrev cnd (z : Nat → Int32) (v : Nat) : Nat → Int32 := fun k => z (423 + 3 * (40 * v + k) + 0)
abbrev nlO (z : Nat → Int32) (v n : Nat) : Option Nat := nlB (cnd z v) n 0
def lv (z : Nat → Int32) (v : Nat) : Nat := (z (11 + 7 * v + 2)).toNatClampNeg
theorem nlO_iff {z : Nat → Int32} {v n : Nat} (h : n ≤ 40) : oI (nlO z v n) = -1 ↔ nlO z v n = none := oI_iff fun q hq => by have := nlB_some hq; omega
abbrev LV (z : Nat → Int32) (nv : Nat) : Prop := ∀ v, v < nv → z (11 + 7 * v + 2) = nI (lv z v) ∧ lv z v ≤ 40
end
section
theorem wiV_t {v n : Nat} (h : v < n) (hn : n < 2147483648) : wi (nI v) (nI 0) (nI n - nI 1) = nI 1 := by
  obtain ⟨m, rfl⟩ : ∃ m, n = m + 1 := ⟨n - 1, by omega⟩
  unfold wi
  rw [nI_p1, if_pos ⟨nI_le (Nat.zero_le _) (by omega), nI_le (by omega) (by omega)⟩]
  rfl
theorem wiV_f {x : Int32} {n : Nat} (hn : n < 2147483648) (h : ¬ ∃ v : Nat, v < n ∧ x = nI v) : wi x (nI 0) (nI n - nI 1) = nI 0 := by
  unfold wi
  rw [if_neg]
  · rfl
  · rintro ⟨h1, h2⟩
    have hx : ¬ x < 0 := fun q => by
      have h1' : (0 : Int32) ≤ x := h1
      rw [Int32.le_iff_toInt_le] at h1'
      rw [Int32.lt_iff_toInt_lt] at q
      omega
    obtain ⟨j, hj, rfl⟩ := nI_of hx
    refine h ⟨j, ?_, rfl⟩
    cases n with
    | zero =>
      exfalso
      have h3 : nI j ≤ -1 := h2
      rw [Int32.le_iff_toInt_le, nI_toInt hj] at h3
      have h4 : (-1 : Int32).toInt = -1 := by decide
      omega
    | succ m =>
      rw [nI_p1, nI_leI hj (by omega)] at h2
      omega
/-- the minutes of a way -/
def wayZ (z : Nat → Int32) (v c : Nat) : Int32 := z 10 * (if z (111 + 4 * c + 0) - z (11 + 7 * v + 0) < 0 then -(z (111 + 4 * c + 0) - z (11 + 7 * v + 0)) else z (111 + 4 * c + 0) - z (11 + 7 * v + 0)) + nI 1
def idZ (z : Nat → Int32) (nv c : Nat) : Int32 := match vo z (nI c) nv with
  | none => nI 1
  | some v => if 0 < z (11 + 7 * v + 6) then nI 2 else if z (95 + 4 * c + 1) < z (11 + 7 * v + 3) then nI 3 else if nlO z v (lv z v) = none then nI 4 else nI 0
/-- why a volume can't be brought -/
def rsZ (z : Nat → Int32) (nv ne v c r : Nat) : Int32 := if 0 < z (11 + 7 * v + 5) then nI 1 else if 0 < z (11 + 7 * v + 6) then nI 2 else if vo z (nI c) nv ≠ none then nI 3 else if z (95 + 4 * c + 0) < z (11 + 7 * v + 1) then nI 4 else if z (95 + 4 * c + 1) < z (11 + 7 * v + 3) then nI 5 else if nlO z v (lv z v) = none then nI 6 else if 0 < z (111 + 4 * r + 1) then nI 7 else if ne = 60 then nI 8 else nI 0
theorem vo_iff {z : Nat → Int32} {c : Int32} {n : Nat} (h : n ≤ 12) : oI (vo z c n) = -1 ↔ vo z c n = none := oI_iff fun q hq => by have := vo_some hq; omega
/-- the first k places of g are those of f -/
def cpK (f g : Nat → Int32) (n : Nat) : Nat → Int32 := fun i => if i < n then f i else g i
theorem cpK_0 (f g : Nat → Int32) : cpK f g 0 = g := by funext i; simp [cpK]
theorem cpK_s (f g : Nat → Int32) (n : Nat) : upd (cpK f g n) n (f n) = cpK f g (n + 1) := by
  funext i
  unfold upd cpK
  by_cases h : i = n
  · subst h; simp
  · by_cases h2 : i < n
    · simp [h, h2, Nat.lt_succ_of_lt h2]
    · have : ¬ i < n + 1 := by omega
      simp [h, h2, this]
end
section
/-- what the walks of the reference need of its cells -/
def ZI (z : Nat → Int32) (nv nc nr ne : Nat) : Prop := (z 0 = nI nv ∧ nv ≤ 12) ∧ (z 1 = nI nc ∧ nc ≤ 4) ∧ (z 2 = nI nr ∧ nr ≤ 3) ∧ (z 5 = nI ne ∧ ne ≤ 60) ∧ LV z nv
def F_5isOpen (v : Nat) (k : Nat) (z : Nat → Int32) : Int32 := if (z (423 + 3 * (40 * v + k) + 0)) = (nI (1)) then if (z 4) < (z (423 + 3 * (40 * v + k) + 2)) then (nI (0)) else (nI (1)) else (nI (0))
theorem F_5isOpen_01 (v : Nat) (k : Nat) (z : Nat → Int32) : F_5isOpen v k z = nI 0 ∨ F_5isOpen v k z = nI 1 := by
  unfold F_5isOpen
  (repeat' split) <;> first | exact Or.inl rfl | exact Or.inr rfl | exact wi01 _ _ _
def B_5open_4 (v : Nat) (z : Nat → Int32) (j4 : Nat) (x4_2 : Int32) : (Int32) := if (F_5isOpen v j4 z) = 0 then (x4_2 + (nI (0))) else (x4_2 + (nI (1)))
def L_5open_4 (v : Nat) (z : Nat → Int32) : Nat → (Int32)
  | 0 => nI (0)
  | j + 1 => B_5open_4 v z j (L_5open_4 v z  j)
def B_5leavesWith_5 (v : Nat) (how : Int32) (z : Nat → Int32) (j5 : Nat) (x5_3 : Int32) : (Int32) := if (z (423 + 3 * (40 * v + j5) + 0)) = how then (x5_3 + (nI (1))) else (x5_3 + (nI (0)))
def L_5leavesWith_5 (v : Nat) (how : Int32) (z : Nat → Int32) : Nat → (Int32)
  | 0 => nI (0)
  | j + 1 => B_5leavesWith_5 v how z j (L_5leavesWith_5 v how z  j)
def B_5scanned_4 (v : Nat) (z : Nat → Int32) (j4 : Nat) (x4_2 : Int32) : (Int32) := (x4_2 + (z (423 + 3 * (40 * v + j4) + 1)))
def L_5scanned_4 (v : Nat) (z : Nat → Int32) : Nat → (Int32)
  | 0 => nI (0)
  | j + 1 => B_5scanned_4 v z j (L_5scanned_4 v z  j)
def B_5barred_4 (v : Nat) (z : Nat → Int32) (j4 : Nat) (x4_2 : Int32) : (Int32) := if (z (423 + 3 * (40 * v + j4) + 2)) = 0 then (x4_2 + (nI (0))) else (x4_2 + (nI (1)))
def L_5barred_4 (v : Nat) (z : Nat → Int32) : Nat → (Int32)
  | 0 => nI (0)
  | j + 1 => B_5barred_4 v z j (L_5barred_4 v z  j)
def F_5volumeNow (v : Nat) (w : Nat) (z : Nat → Int32) : Int32 := if w = 5 then ((z (11 + 7 * v + 5)) - (nI (1))) else if w = 6 then (z (11 + 7 * v + w)) else if w = 7 then (L_5leavesWith_5 v (nI (1)) z (lv z v)) else if w = 8 then (L_5leavesWith_5 v (nI (2)) z (lv z v)) else if w = 9 then (L_5open_4 v z (lv z v)) else if w = 10 then (oI (nlO z v (lv z v))) else if w = 11 then (L_5scanned_4 v z (lv z v)) else (z (11 + 7 * v + w))
def F_5leafNow (v : Nat) (k : Nat) (w : Nat) (z : Nat → Int32) : Int32 := if 3 ≤ w then if (F_5isOpen v k z) = 0 then (nI (0)) else (nI (1)) else (z (423 + 3 * (40 * v + k) + w))
end
section
def voG (z : Nat → Int32) (c : Int32) (n : Nat) : Nat := (vo z c n).getD 0
theorem vo_get {z : Nat → Int32} {c : Int32} {n : Nat} (h : ¬ oI (vo z c n) = -1) : vo z c n = some (voG z c n) ∧ voG z c n < n := by
  obtain ⟨q, hq⟩ := oI_ne h
  have h1 : voG z c n = q := by unfold voG; rw [hq]; rfl
  rw [h1]
  exact ⟨hq, (vo_some hq).1⟩
def nlG (z : Nat → Int32) (v n : Nat) : Nat := (nlO z v n).getD 0
theorem nlO_get {z : Nat → Int32} {v n : Nat} (h : ¬ oI (nlO z v n) = -1) : nlO z v n = some (nlG z v n) ∧ nlG z v n < n := by
  obtain ⟨q, hq⟩ := oI_ne h
  have h1 : nlG z v n = q := by unfold nlG; rw [hq]; rfl
  rw [h1]
  have := nlB_some hq
  exact ⟨hq, by omega⟩
/-- NONE or a number below n -/
def QI (n : Nat) (x : Int32) : Prop := x = -1 ∨ ∃ q : Nat, q < n ∧ x = nI q
theorem QI_get {n : Nat} {x : Int32} (hn : n < 2147483648) (h : QI n x) (hx : ¬ x = -1) : x = nI x.toNatClampNeg ∧ x.toNatClampNeg < n := by
  rcases h with e | ⟨q, h1, rfl⟩
  · exact absurd e hx
  · rw [nI_clamp (by omega)]
    exact ⟨rfl, h1⟩
def B_5overAll_4 (w : Nat) (z : Nat → Int32) (j4 : Nat) (x4_2 : Int32) : (Int32) := (x4_2 + (F_5volumeNow j4 w z))
def L_5overAll_4 (w : Nat) (z : Nat → Int32) : Nat → (Int32)
  | 0 => nI (0)
  | j + 1 => B_5overAll_4 w z j (L_5overAll_4 w z  j)
def B_5free_4 (nv : Nat) (z : Nat → Int32) (j4 : Nat) (x4_1 : Int32) : (Int32) := if (oI (vo z (nI (j4)) nv)) = (-1) then (x4_1 + (nI (1))) else (x4_1 + (nI (0)))
def L_5free_4 (nv : Nat) (z : Nat → Int32) : Nat → (Int32)
  | 0 => nI (0)
  | j + 1 => B_5free_4 nv z j (L_5free_4 nv z  j)
def F_5cradleNow (c : Nat) (w : Nat) (nv : Nat) (z : Nat → Int32) : Int32 := if w = 0 then (z (95 + 4 * c + w)) else if w = 1 then (z (95 + 4 * c + w)) else if w = 2 then (oI (vo z (nI (c)) nv)) else if w = 3 then (z (95 + 4 * c + (w - 1))) else if w = 4 then (z (95 + 4 * c + (w - 1))) else (idZ z nv c)
def B_5doneBy_4 (c : Int32) (z : Nat → Int32) (j4 : Nat) (x4_2 : Int32) : (Int32) := if c = (-1) then (x4_2 + (z (95 + 4 * j4 + 3))) else if (nI (j4)) = c then (x4_2 + (z (95 + 4 * j4 + 3))) else (x4_2 + (nI (0)))
def L_5doneBy_4 (c : Int32) (z : Nat → Int32) : Nat → (Int32)
  | 0 => nI (0)
  | j + 1 => B_5doneBy_4 c z j (L_5doneBy_4 c z  j)
def B_5whereNow_5 (v : Int32) (m : Int32) (z : Nat → Int32) (j5 : Nat) (x5_3 : Int32) : (Int32) := if m < (z (123 + (5 * j5))) then x5_3 else if (z ((123 + (5 * j5)) + 2)) = v then (z ((123 + (5 * j5)) + 3)) else x5_3
def L_5whereNow_5 (v : Int32) (m : Int32) (z : Nat → Int32) : Nat → (Int32)
  | 0 => -1
  | j + 1 => B_5whereNow_5 v m z j (L_5whereNow_5 v m z  j)
def F_5counted (w : Nat) (nv : Nat) (nc : Nat) (z : Nat → Int32) (sv : Int32) : Int32 := if w = 6 then (L_5overAll_4 2 z nv) else if w = 7 then (L_5overAll_4 w z nv) else if w = 8 then (L_5overAll_4 w z nv) else if w = 9 then (L_5overAll_4 w z nv) else if w = 10 then (L_5overAll_4 11 z nv) else if w = 11 then (z 6) else if w = 12 then (L_5free_4 nv z nc) else if w = 13 then sv else (z w)
def B_5isAny_4 (nv : Nat) (z : Nat → Int32) (j4 : Nat) (x4_1 : Int32) : (Int32) := if x4_1 = 0 then if (oI (vo z (nI (j4)) nv)) = (-1) then (nI (0)) else if (z (95 + 4 * j4 + 1)) < (z (11 + 7 * (voG z (nI (j4)) nv) + 3)) then (nI (0)) else if (oI (nlO z (voG z (nI (j4)) nv) (lv z (voG z (nI (j4)) nv)))) = (-1) then (nI (0)) else (nI (1)) else (nI (1))
def L_5isAny_4 (nv : Nat) (z : Nat → Int32) : Nat → (Int32)
  | 0 => nI (0)
  | j + 1 => B_5isAny_4 nv z j (L_5isAny_4 nv z  j)
def B_5quickestNow_4 (v : Nat) (z : Nat → Int32) (j4 : Nat) (x4_2 : Int32) : (Int32) := if (z (111 + 4 * j4 + 1)) = 0 then if x4_2 = (-1) then (nI (j4)) else if (wayZ z v (x4_2.toNatClampNeg)) ≤ (wayZ z v j4) then (nI (x4_2.toNatClampNeg)) else (nI (j4)) else x4_2
def L_5quickestNow_4 (v : Nat) (z : Nat → Int32) : Nat → (Int32)
  | 0 => -1
  | j + 1 => B_5quickestNow_4 v z j (L_5quickestNow_4 v z  j)
end
section
/-! changes of the reference's cells -/
theorem upd_ne {f : Nat → Int32} {i k : Nat} {x : Int32} (h : k ≠ i) : upd f i x k = f k := if_neg h
theorem upd_eq {f : Nat → Int32} {i : Nat} {x : Int32} : upd f i x i = x := if_pos rfl
theorem lv_upd {z : Nat → Int32} {i v : Nat} {x : Int32} (h : i ≠ 11 + 7 * v + 2) : lv (upd z i x) v = lv z v := by
  unfold lv
  rw [upd_ne (fun q => h q.symm)]
theorem LV_upd {z : Nat → Int32} {nv i : Nat} {x : Int32} (h12 : nv ≤ 12) (h : ∀ v, v < 12 → i ≠ 11 + 7 * v + 2) (hL : LV z nv) : LV (upd z i x) nv := by
  intro v hv
  rw [lv_upd (h v (by omega)), upd_ne (fun q => h v (by omega) q.symm)]
  exact hL v hv
/-- a place that the walks don't look at -/
def plc (i : Nat) : Prop := i ≠ 0 ∧ i ≠ 1 ∧ i ≠ 2 ∧ i ≠ 5 ∧ ∀ v, v < 12 → i ≠ 11 + 7 * v + 2
theorem ZI_upd {z : Nat → Int32} {nv nc nr ne i : Nat} {x : Int32} (h : plc i) (hZ : ZI z nv nc nr ne) : ZI (upd z i x) nv nc nr ne := by
  obtain ⟨a, b, c, e, g⟩ := h
  obtain ⟨⟨h1, h2⟩, ⟨h3, h4⟩, ⟨h5, h6⟩, ⟨h7, h8⟩, h9⟩ := hZ
  exact ⟨⟨(upd_ne a.symm).trans h1, h2⟩, ⟨(upd_ne b.symm).trans h3, h4⟩, ⟨(upd_ne c.symm).trans h5, h6⟩, ⟨(upd_ne e.symm).trans h7, h8⟩, LV_upd h2 g h9⟩
theorem nlB_congr {f g : Nat → Int32} : ∀ {m k : Nat}, (∀ j, k ≤ j → j < k + m → f j = g j) → nlB f m k = nlB g m k := by
  have H : ∀ (y : Int32) (m k : Nat), (∀ j, k ≤ j → j < k + m → f j = g j) → fi (fun j => f j = y) m k = fi (fun j => g j = y) m k := by
    intro y m
    induction m with
    | zero => intro k _; rfl
    | succ m ih =>
      intro k h
      unfold fi
      rw [ih (k + 1) (fun j h1 h2 => h j (by omega) (by omega)), h k (Nat.le_refl _) (by omega)]
  intro m k h
  unfold nlB
  rw [H _ m k h, H _ m k h]
theorem nlO_upd {z : Nat → Int32} {i v n : Nat} {x : Int32} (h : i < 423) : nlO (upd z i x) v n = nlO z v n := nlB_congr fun j _ _ => upd_ne (by omega)
def B_5saveF_11 (j11 : Nat) (y11_ro : Nat → Int32) : (Nat → Int32) := (upd y11_ro j11 (y11_ro (1863 + j11)))
def L_5saveF_11 (ro : Nat → Int32) : Nat → (Nat → Int32)
  | 0 => ro
  | j + 1 => B_5saveF_11  j (L_5saveF_11 ro  j)
def B_5saveF_52 (z : Nat → Int32) (j52 : Nat) (y52_ro : Nat → Int32) : (Nat → Int32) := (upd y52_ro ((1863 * (6 - 1)) + j52) (z j52))
def L_5saveF_52 (z : Nat → Int32) (ro : Nat → Int32) : Nat → (Nat → Int32)
  | 0 => L_5saveF_11 ro 9315
  | j + 1 => B_5saveF_52 z j (L_5saveF_52 z ro  j)
def F_5saveF_ro (z : Nat → Int32) (ro : Nat → Int32) : Nat → Int32 := (L_5saveF_52 z ro 1863)
def F_5saveF_sv : Int32 := ((nI ((6 - 1))) + (nI (1)))
def B_5saveM_52 (s : Nat) (z : Nat → Int32) (j52 : Nat) (y52_ro : Nat → Int32) : (Nat → Int32) := (upd y52_ro ((1863 * s) + j52) (z j52))
def L_5saveM_52 (s : Nat) (z : Nat → Int32) (ro : Nat → Int32) : Nat → (Nat → Int32)
  | 0 => ro
  | j + 1 => B_5saveM_52 s z j (L_5saveM_52 s z ro  j)
def F_5saveM_ro (s : Nat) (z : Nat → Int32) (ro : Nat → Int32) : Nat → Int32 := (L_5saveM_52 s z ro 1863)
def F_5saveM_sv (s : Nat) : Int32 := ((nI (s)) + (nI (1)))
/-- the saved states behind a save -/
def svR (z ro : Nat → Int32) (s : Nat) : Nat → Int32 := if s = 6 then F_5saveF_ro z ro else F_5saveM_ro s z ro
def svN (s : Nat) : Nat := if s = 6 then 6 else s + 1
end
section
def F_5goesB (v : Nat) (r : Nat) (z : Nat → Int32) : Int32 := (wayZ z v r)
def F_5goesB_z (v : Nat) (r : Nat) (ne : Nat) (w : Nat) (z : Nat → Int32) : Nat → Int32 := (upd (upd (upd (upd (upd (upd (upd (upd (upd (upd (upd (upd (upd z ((95 + (4 * w)) + 2) (nI (0))) ((11 + (7 * v)) + 5) ((-1) + (nI (1)))) ((11 + (7 * v)) + 6) (wayZ z v r)) ((111 + (4 * r)) + 0) (z (11 + 7 * v + 0))) ((111 + (4 * r)) + 1) (wayZ z v r)) ((111 + (4 * r)) + 2) ((z ((111 + (4 * r)) + 2)) + (nI (1)))) ((111 + (4 * r)) + 3) ((z ((111 + (4 * r)) + 3)) + (wayZ z v r))) (123 + (5 * ne)) (z 3)) ((123 + (5 * ne)) + 1) (nI (r))) ((123 + (5 * ne)) + 2) (nI (v))) ((123 + (5 * ne)) + 3) (-1)) ((123 + (5 * ne)) + 4) (wayZ z v r)) 5 (nI ((ne + 1))))
def F_5goesA (v : Nat) (r : Nat) (z : Nat → Int32) : Int32 := (wayZ z v r)
def F_5goesA_z (v : Nat) (c : Nat) (r : Nat) (ne : Nat) (z : Nat → Int32) : Nat → Int32 := (upd (upd (upd (upd (upd (upd (upd (upd (upd (upd (upd (upd (upd z ((95 + (4 * c)) + 2) (nI (0))) ((11 + (7 * v)) + 5) (nI ((c + 1)))) ((11 + (7 * v)) + 6) (wayZ z v r)) ((111 + (4 * r)) + 0) (z (11 + 7 * v + 0))) ((111 + (4 * r)) + 1) (wayZ z v r)) ((111 + (4 * r)) + 2) ((z ((111 + (4 * r)) + 2)) + (nI (1)))) ((111 + (4 * r)) + 3) ((z ((111 + (4 * r)) + 3)) + (wayZ z v r))) (123 + (5 * ne)) (z 3)) ((123 + (5 * ne)) + 1) (nI (r))) ((123 + (5 * ne)) + 2) (nI (v))) ((123 + (5 * ne)) + 3) (nI (c))) ((123 + (5 * ne)) + 4) (wayZ z v r)) 5 (nI ((ne + 1))))
theorem idZ_0 {z : Nat → Int32} {nv nc nr ne c : Nat} (hZ : ZI z nv nc nr ne) (h : idZ z nv c = 0) : vo z (nI c) nv = some (voG z (nI c) nv) ∧ voG z (nI c) nv < nv ∧ nlO z (voG z (nI c) nv) (lv z (voG z (nI c) nv)) = some (nlG z (voG z (nI c) nv) (lv z (voG z (nI c) nv))) ∧ nlG z (voG z (nI c) nv) (lv z (voG z (nI c) nv)) < 40 := by
  have h40 := hZ.2.2.2.2
  cases hv : vo z (nI c) nv with
  | none =>
    unfold idZ at h
    rw [hv] at h
    dsimp only at h
    exact absurd h (by decide)
  | some v =>
    have e1 : voG z (nI c) nv = v := by unfold voG; rw [hv]; rfl
    have hvn := (vo_some hv).1
    rw [e1]
    unfold idZ at h
    rw [hv] at h
    dsimp only at h
    cases hk : nlO z v (lv z v) with
    | none =>
      rw [hk] at h
      split at h
      · exact absurd h (by decide)
      · split at h
        · exact absurd h (by decide)
        · rw [if_pos rfl] at h
          exact absurd h (by decide)
    | some k =>
      have e2 : nlG z v (lv z v) = k := by unfold nlG; rw [hk]; rfl
      rw [e2]
      have := nlB_some hk
      exact ⟨rfl, hvn, rfl, by have := (h40 v hvn).2; omega⟩
def F_5scans (c : Nat) (v : Nat) (z : Nat → Int32) : Int32 := if ((z 7) + ((z 8) * (z (11 + 7 * v + 3)))) ≤ ((z ((95 + (4 * c)) + 2)) + (nI (1))) then if ((z ((11 + (7 * v)) + 4)) + (nI (1))) < (z 9) then (nI (1)) else (nI (1)) else (nI (0))
theorem F_5scans_01 (c : Nat) (v : Nat) (z : Nat → Int32) : F_5scans c v z = nI 0 ∨ F_5scans c v z = nI 1 := by
  unfold F_5scans
  (repeat' split) <;> first | exact Or.inl rfl | exact Or.inr rfl | exact wi01 _ _ _
def F_5scans_z (c : Nat) (v : Nat) (k : Nat) (z : Nat → Int32) : Nat → Int32 := if ((z 7) + ((z 8) * (z (11 + 7 * v + 3)))) ≤ ((z ((95 + (4 * c)) + 2)) + (nI (1))) then if ((z ((11 + (7 * v)) + 4)) + (nI (1))) < (z 9) then (upd (upd (upd (upd (upd (upd z ((95 + (4 * c)) + 2) ((z ((95 + (4 * c)) + 2)) + (nI (1)))) ((95 + (4 * c)) + 2) (nI (0))) ((95 + (4 * c)) + 3) ((z ((95 + (4 * c)) + 3)) + (nI (1)))) (423 + (3 * ((40 * v) + k))) (nI (1))) ((423 + (3 * ((40 * v) + k))) + 1) ((z ((423 + (3 * ((40 * v) + k))) + 1)) + (nI (1)))) ((11 + (7 * v)) + 4) ((z ((11 + (7 * v)) + 4)) + (nI (1)))) else (upd (upd (upd (upd (upd (upd (upd (upd z ((95 + (4 * c)) + 2) ((z ((95 + (4 * c)) + 2)) + (nI (1)))) ((95 + (4 * c)) + 2) (nI (0))) ((95 + (4 * c)) + 3) ((z ((95 + (4 * c)) + 3)) + (nI (1)))) (423 + (3 * ((40 * v) + k))) (nI (1))) ((423 + (3 * ((40 * v) + k))) + 1) ((z ((423 + (3 * ((40 * v) + k))) + 1)) + (nI (1)))) ((11 + (7 * v)) + 4) ((z ((11 + (7 * v)) + 4)) + (nI (1)))) ((11 + (7 * v)) + 4) (nI (0))) ((11 + (7 * v)) + 3) ((z ((11 + (7 * v)) + 3)) + (nI (1)))) else (upd z ((95 + (4 * c)) + 2) ((z ((95 + (4 * c)) + 2)) + (nI (1))))
end
section
theorem ZI_scans {z : Nat → Int32} {nv nc nr ne c v k : Nat} (hc : c < 4) (hv : v < 12) (hk : k < 40) (hZ : ZI z nv nc nr ne) : ZI (F_5scans_z c v k z) nv nc nr ne := by
  have p1 : plc ((95 + (4 * c)) + 2) := ⟨by omega, by omega, by omega, by omega, fun v9 hv9 => by omega⟩
  have p2 : plc ((95 + (4 * c)) + 3) := ⟨by omega, by omega, by omega, by omega, fun v9 hv9 => by omega⟩
  have p3 : plc (423 + (3 * ((40 * v) + k))) := ⟨by omega, by omega, by omega, by omega, fun v9 hv9 => by omega⟩
  have p4 : plc ((423 + (3 * ((40 * v) + k))) + 1) := ⟨by omega, by omega, by omega, by omega, fun v9 hv9 => by omega⟩
  have p5 : plc ((11 + (7 * v)) + 4) := ⟨by omega, by omega, by omega, by omega, fun v9 hv9 => by omega⟩
  have p6 : plc ((11 + (7 * v)) + 3) := ⟨by omega, by omega, by omega, by omega, fun v9 hv9 => by omega⟩
  unfold F_5scans_z
  (repeat' split) <;> repeat (first | exact hZ | exact ZI_upd p1 hZ | refine ZI_upd p1 ?_ | refine ZI_upd p2 ?_ | refine ZI_upd p3 ?_ | refine ZI_upd p4 ?_ | refine ZI_upd p5 ?_ | refine ZI_upd p6 ?_)
def B_5minute_4 (nv : Nat) (j4 : Nat) (x4_1 : Int32) (y4_z : Nat → Int32) : (Int32) × (Nat → Int32) := if (idZ y4_z nv j4) = 0 then (x4_1 + (F_5scans j4 (voG y4_z (nI j4) nv) y4_z), F_5scans_z j4 (voG y4_z (nI j4) nv) (nlG y4_z (voG y4_z (nI j4) nv) (lv y4_z (voG y4_z (nI j4) nv))) y4_z) else (x4_1 + (nI (0)), y4_z)
def L_5minute_4 (nv : Nat) (z : Nat → Int32) : Nat → (Int32) × (Nat → Int32)
  | 0 => (nI (0), z)
  | j + 1 => B_5minute_4 nv j ((L_5minute_4 nv z  j).1) ((L_5minute_4 nv z  j).2)
def B_5minute_42 (j42 : Nat) (y42_z : Nat → Int32) : (Nat → Int32) := if (y42_z (111 + 4 * j42 + 1)) ≤ 0 then (upd y42_z ((111 + (4 * j42)) + 1) ((y42_z ((111 + (4 * j42)) + 1)) - (nI (0)))) else (upd y42_z ((111 + (4 * j42)) + 1) ((y42_z ((111 + (4 * j42)) + 1)) - (nI (1))))
def L_5minute_42 (nv : Nat) (nc : Nat) (z : Nat → Int32) : Nat → (Nat → Int32)
  | 0 => (L_5minute_4 nv z nc).2
  | j + 1 => B_5minute_42  j (L_5minute_42 nv nc z  j)
def B_5minute_90 (j90 : Nat) (y90_z : Nat → Int32) : (Nat → Int32) := if (y90_z (11 + 7 * j90 + 6)) ≤ 0 then (upd y90_z ((11 + (7 * j90)) + 6) ((y90_z ((11 + (7 * j90)) + 6)) - (nI (0)))) else (upd y90_z ((11 + (7 * j90)) + 6) ((y90_z ((11 + (7 * j90)) + 6)) - (nI (1))))
def L_5minute_90 (nv : Nat) (nc : Nat) (nr : Nat) (z : Nat → Int32) : Nat → (Nat → Int32)
  | 0 => L_5minute_42 nv nc z nr
  | j + 1 => B_5minute_90  j (L_5minute_90 nv nc nr z  j)
theorem ZI_min4 {z : Nat → Int32} {nv nc nr ne : Nat} (hZ : ZI z nv nc nr ne) : ∀ j : Nat, j ≤ 4 → ZI (L_5minute_4 nv z j).2 nv nc nr ne
  | 0, _ => hZ
  | j + 1, h => by
    have ih := ZI_min4 hZ j (by omega)
    show ZI (B_5minute_4 nv j (L_5minute_4 nv z j).1 (L_5minute_4 nv z j).2).2 nv nc nr ne
    unfold B_5minute_4
    split
    · rename_i h0
      obtain ⟨h1, h2, h3, h4⟩ := idZ_0 ih h0
      exact ZI_scans (by omega) (by have := ih.1.2; omega) h4 ih
    · exact ih
theorem ZI_min42 {z : Nat → Int32} {nv nc nr ne : Nat} (hZ : ZI z nv nc nr ne) (h4 : nc ≤ 4) : ∀ j : Nat, j ≤ 3 → ZI (L_5minute_42 nv nc z j) nv nc nr ne
  | 0, _ => ZI_min4 hZ nc h4
  | j + 1, h => by
    have ih := ZI_min42 hZ h4 j (by omega)
    show ZI (B_5minute_42 j (L_5minute_42 nv nc z j)) nv nc nr ne
    have p1 : plc ((111 + (4 * j)) + 1) := ⟨by omega, by omega, by omega, by omega, fun v9 hv9 => by omega⟩
    unfold B_5minute_42
    split <;> exact ZI_upd p1 ih
theorem ZI_min90 {z : Nat → Int32} {nv nc nr ne : Nat} (hZ : ZI z nv nc nr ne) (h4 : nc ≤ 4) (h3 : nr ≤ 3) : ∀ j : Nat, j ≤ 12 → ZI (L_5minute_90 nv nc nr z j) nv nc nr ne
  | 0, _ => ZI_min42 hZ h4 nr h3
  | j + 1, h => by
    have ih := ZI_min90 hZ h4 h3 j (by omega)
    show ZI (B_5minute_90 j (L_5minute_90 nv nc nr z j)) nv nc nr ne
    have p1 : plc ((11 + (7 * j)) + 6) := ⟨by omega, by omega, by omega, by omega, fun v9 hv9 => by omega⟩
    unfold B_5minute_90
    split <;> exact ZI_upd p1 ih
def F_5minute (nv : Nat) (nc : Nat) (z : Nat → Int32) : Int32 := ((L_5minute_4 nv z nc).1)
def F_5minute_z (nv : Nat) (nc : Nat) (nr : Nat) (z : Nat → Int32) : Nat → Int32 := (upd (L_5minute_90 nv nc nr z nv) 3 (((L_5minute_90 nv nc nr z nv) 3) + (nI (1))))
theorem ZI_minute {z : Nat → Int32} {nv nc nr ne : Nat} (hZ : ZI z nv nc nr ne) : ZI (F_5minute_z nv nc nr z) nv nc nr ne := by
  unfold F_5minute_z
  exact ZI_upd ⟨by omega, by omega, by omega, by omega, fun v9 hv9 => by omega⟩ (ZI_min90 hZ hZ.2.1.2 hZ.2.2.1.2 nv hZ.1.2)
end
section
/-- n minutes -/
def mnN (nv nc nr : Nat) (z : Nat → Int32) : Nat → (Nat → Int32)
  | 0 => z
  | j + 1 => F_5minute_z nv nc nr (mnN nv nc nr z j)
theorem ZI_mnN {z : Nat → Int32} {nv nc nr ne : Nat} (hZ : ZI z nv nc nr ne) : ∀ j : Nat, ZI (mnN nv nc nr z j) nv nc nr ne
  | 0 => hZ
  | j + 1 => ZI_minute (ZI_mnN hZ j)
def B_5passedNow_13 (nv : Nat) (nc : Nat) (nr : Nat) (j13 : Nat) (y13_z : Nat → Int32) : (Nat → Int32) := (F_5minute_z nv nc nr y13_z)
def L_5passedNow_13 (nv : Nat) (nc : Nat) (nr : Nat) (z : Nat → Int32) : Nat → (Nat → Int32)
  | 0 => z
  | j + 1 => B_5passedNow_13 nv nc nr j (L_5passedNow_13 nv nc nr z  j)
theorem pN_mn (nv nc nr : Nat) (z : Nat → Int32) : ∀ j : Nat, L_5passedNow_13 nv nc nr z j = mnN nv nc nr z j
  | 0 => rfl
  | j + 1 => by
    show F_5minute_z nv nc nr (L_5passedNow_13 nv nc nr z j) = _
    rw [pN_mn nv nc nr z j]
    rfl
def F_5passedNow (m : Nat) (c : Int32) (nv : Nat) (nc : Nat) (nr : Nat) (z : Nat → Int32) : Int32 := ((L_5doneBy_4 c (L_5passedNow_13 nv nc nr z m) nc) - (L_5doneBy_4 c z nc))
def F_5passedNow_z (m : Nat) (nv : Nat) (nc : Nat) (nr : Nat) (z : Nat → Int32) (sa : Nat → Int32) : Nat → Int32 := (cpK (cpK z sa 1863) (L_5passedNow_13 nv nc nr z m) 1863)
def F_5passedNow_sa (z : Nat → Int32) (sa : Nat → Int32) : Nat → Int32 := (cpK z sa 1863)
def W_5doneNow_6 (nv : Nat) (nc : Nat) (nr : Nat) (z : Nat → Int32) (sa : Nat → Int32) : Nat → Nat → (Nat → Int32) → (Int32) × (Nat → Int32)
  | 0, j6, y6_z => if j6 ≤ 2000 then (nI (j6), cpK (cpK z sa 1863) y6_z 1863) else (-1, cpK (cpK z sa 1863) y6_z 1863)
  | f6 + 1, j6, y6_z => if (L_5isAny_4 nv y6_z nc) = 0 then if j6 ≤ 2000 then (nI (j6), cpK (cpK z sa 1863) y6_z 1863) else (-1, cpK (cpK z sa 1863) y6_z 1863) else W_5doneNow_6 nv nc nr z sa f6 (j6 + 1) (F_5minute_z nv nc nr y6_z)
def F_5doneNow (nv : Nat) (nc : Nat) (nr : Nat) (z : Nat → Int32) (sa : Nat → Int32) : Int32 := ((W_5doneNow_6 nv nc nr z sa 2001 0 z).1)
def F_5doneNow_z (nv : Nat) (nc : Nat) (nr : Nat) (z : Nat → Int32) (sa : Nat → Int32) : Nat → Int32 := ((W_5doneNow_6 nv nc nr z sa 2001 0 z).2)
def F_5doneNow_sa (z : Nat → Int32) (sa : Nat → Int32) : Nat → Int32 := (cpK z sa 1863)
def F_5mayHave (c : Nat) (v : Nat) (nv : Nat) (z : Nat → Int32) : Int32 := if (z (11 + 7 * v + 5)) = 0 then if (z (11 + 7 * v + 6)) = 0 then if (z (95 + 4 * c + 0)) < (z (11 + 7 * v + 1)) then (nI (0)) else if (z (95 + 4 * c + 1)) < (z (11 + 7 * v + 3)) then (nI (0)) else if (oI (vo z (nI (c)) nv)) = (-1) then (nI (1)) else (nI (0)) else if (z (95 + 4 * c + 0)) < (z (11 + 7 * v + 1)) then (nI (0)) else if (z (95 + 4 * c + 1)) < (z (11 + 7 * v + 3)) then (nI (0)) else (nI (0)) else if (z (95 + 4 * c + 0)) < (z (11 + 7 * v + 1)) then (nI (0)) else if (z (95 + 4 * c + 1)) < (z (11 + 7 * v + 3)) then (nI (0)) else (nI (0))
theorem F_5mayHave_01 (c : Nat) (v : Nat) (nv : Nat) (z : Nat → Int32) : F_5mayHave c v nv z = nI 0 ∨ F_5mayHave c v nv z = nI 1 := by
  unfold F_5mayHave
  (repeat' split) <;> first | exact Or.inl rfl | exact Or.inr rfl | exact wi01 _ _ _
def W_5scansOf_32 (c : Nat) (z : Nat → Int32) : Nat → Nat → (Int32) → (Int32) → (Int32) → (Int32) → (Int32) → (Int32)
  | 0, j32, x32_4, x32_5, x32_6, x32_7, x32_8 => x32_8
  | f32 + 1, j32, x32_4, x32_5, x32_6, x32_7, x32_8 => if x32_6 ≤ 0 then x32_8 else if (z (95 + 4 * c + 1)) < x32_4 then x32_8 else if (x32_7 + (nI (1))) < ((z 7) + ((z 8) * x32_4)) then W_5scansOf_32 c z f32 (j32 + 1) x32_4 x32_5 x32_6 (x32_7 + (nI (1))) x32_8 else if (x32_5 + (nI (1))) < (z 9) then if (x32_5 + (nI (1))) < (z 9) then W_5scansOf_32 c z f32 (j32 + 1) (x32_4 + (nI (0))) (x32_5 + (nI (1))) (x32_6 + (-1)) (nI (0)) (x32_8 + (nI (1))) else W_5scansOf_32 c z f32 (j32 + 1) (x32_4 + (nI (0))) (nI (0)) (x32_6 + (-1)) (nI (0)) (x32_8 + (nI (1))) else if (x32_5 + (nI (1))) < (z 9) then W_5scansOf_32 c z f32 (j32 + 1) (x32_4 + (nI (1))) (x32_5 + (nI (1))) (x32_6 + (-1)) (nI (0)) (x32_8 + (nI (1))) else W_5scansOf_32 c z f32 (j32 + 1) (x32_4 + (nI (1))) (nI (0)) (x32_6 + (-1)) (nI (0)) (x32_8 + (nI (1)))
def B_5layGains_9 (m : Nat) (nv : Nat) (nc : Nat) (z : Nat → Int32) (j2 : Nat) (j9 : Nat) (y9_ga : Nat → Int32) : (Nat → Int32) := if nc ≤ j2 then (upd y9_ga ((12 * j2) + j9) (-1)) else if nv ≤ j9 then (upd y9_ga ((12 * j2) + j9) (-1)) else if (F_5mayHave j2 j9 nv z) = 0 then (upd y9_ga ((12 * j2) + j9) (-1)) else (upd y9_ga ((12 * j2) + j9) (W_5scansOf_32 j2 z (m - 1) 0 (z (11 + 7 * j9 + 3)) (z (11 + 7 * j9 + 4)) ((nI ((lv z j9))) - (L_5leavesWith_5 j9 (nI (1)) z (lv z j9))) (nI (0)) (nI (0))))
def L_5layGains_9 (m : Nat) (nv : Nat) (nc : Nat) (z : Nat → Int32) (j2 : Nat) (y2_ga : Nat → Int32) : Nat → (Nat → Int32)
  | 0 => y2_ga
  | j + 1 => B_5layGains_9 m nv nc z j2 j (L_5layGains_9 m nv nc z j2 y2_ga  j)
def B_5layGains_2 (m : Nat) (nv : Nat) (nc : Nat) (z : Nat → Int32) (j2 : Nat) (y2_ga : Nat → Int32) : (Nat → Int32) := (L_5layGains_9 m nv nc z j2 y2_ga 12)
def L_5layGains_2 (m : Nat) (nv : Nat) (nc : Nat) (z : Nat → Int32) (ga : Nat → Int32) : Nat → (Nat → Int32)
  | 0 => ga
  | j + 1 => B_5layGains_2 m nv nc z j (L_5layGains_2 m nv nc z ga  j)
def F_5layGains_ga (m : Nat) (nv : Nat) (nc : Nat) (z : Nat → Int32) (ga : Nat → Int32) : Nat → Int32 := (L_5layGains_2 m nv nc z ga 4)
end
section
def B_5canPick_38 (c : Nat) (pi : Nat → Int32) (j38 : Nat) (x38_2 : Int32) : (Int32) := if x38_2 = 0 then (nI (0)) else if (pi c) = (-1) then (nI (1)) else if (pi j38) = (pi c) then (nI (0)) else (nI (1))
def L_5canPick_38 (c : Nat) (pi : Nat → Int32) (i38_0 : Int32) : Nat → (Int32)
  | 0 => i38_0
  | j + 1 => B_5canPick_38 c pi j (L_5canPick_38 c pi i38_0 j)
def F_5canPick (c : Nat) (ga : Nat → Int32) (pi : Nat → Int32) : Int32 := if (pi c) = (-1) then (L_5canPick_38 c pi (nI (1)) c) else if (ga ((12 * c) + (pi c).toNatClampNeg)) = (-1) then (L_5canPick_38 c pi (nI (0)) c) else (L_5canPick_38 c pi (nI (1)) c)
def F_5bestNow (w : Nat) (be : Nat → Int32) (bm : Int32) : Int32 := if w = 0 then bm else (be (w - 1))
def B_5keepPicks_4 (ga : Nat → Int32) (pi : Nat → Int32) (j4 : Nat) (x4_1 : Int32) : (Int32) := if (pi j4) = (-1) then (x4_1 + (nI (0))) else (x4_1 + (ga ((12 * j4) + (pi j4).toNatClampNeg)))
def L_5keepPicks_4 (ga : Nat → Int32) (pi : Nat → Int32) : Nat → (Int32)
  | 0 => nI (0)
  | j + 1 => B_5keepPicks_4 ga pi j (L_5keepPicks_4 ga pi  j)
def W_5keepPicks_50 (ga : Nat → Int32) (pi : Nat → Int32) (bm : Int32) : Nat → Nat → (Nat → Int32) → (Nat → Int32) × (Int32)
  | 0, j50, y50_be => if (L_5keepPicks_4 ga pi 4) ≤ bm then (y50_be, bm) else (y50_be, L_5keepPicks_4 ga pi 4)
  | f50 + 1, j50, y50_be => if (L_5keepPicks_4 ga pi 4) ≤ bm then if (L_5keepPicks_4 ga pi 4) ≤ bm then (y50_be, bm) else (y50_be, L_5keepPicks_4 ga pi 4) else W_5keepPicks_50 ga pi bm f50 (j50 + 1) (upd y50_be j50 (pi j50))
def F_5keepPicks_be (ga : Nat → Int32) (pi : Nat → Int32) (be : Nat → Int32) (bm : Int32) : Nat → Int32 := ((W_5keepPicks_50 ga pi bm 4 0 be).1)
def F_5keepPicks_bm (ga : Nat → Int32) (pi : Nat → Int32) (be : Nat → Int32) (bm : Int32) : Int32 := ((W_5keepPicks_50 ga pi bm 4 0 be).2)
def F_5openNow (nv : Nat) (nc : Nat) (z : Nat → Int32) (sv : Int32) : UInt64 := if (F_5counted 6 nv nc z sv) = 0 then (FP.dconst0) else (FP.ddiv (FP.i2d (F_5counted 9 nv nc z sv)) (FP.i2d (F_5counted 6 nv nc z sv)))
def F_5mix_hh (v : Int64) (hh : Int64) : Int64 := ((31 * hh) + v)
def B_5mixVolume_2 (v : Nat) (z : Nat → Int32) (j2 : Nat) (y2_hh : Int64) : (Int64) := (F_5mix_hh ((F_5volumeNow v j2 z).toInt64) y2_hh)
def L_5mixVolume_2 (v : Nat) (z : Nat → Int32) (hh : Int64) : Nat → (Int64)
  | 0 => hh
  | j + 1 => B_5mixVolume_2 v z j (L_5mixVolume_2 v z hh  j)
def B_5mixVolume_27 (v : Nat) (z : Nat → Int32) (j27 : Nat) (y27_hh : Int64) : (Int64) := (F_5mix_hh ((F_5leafNow v (j27 / 4) (j27 % 4) z).toInt64) y27_hh)
def L_5mixVolume_27 (v : Nat) (z : Nat → Int32) (hh : Int64) : Nat → (Int64)
  | 0 => L_5mixVolume_2 v z hh 12
  | j + 1 => B_5mixVolume_27 v z j (L_5mixVolume_27 v z hh  j)
def F_5mixVolume_hh (v : Nat) (nr : Nat) (ne : Nat) (z : Nat → Int32) (hh : Int64) : Int64 := (F_5mix_hh ((L_5quickestNow_4 v z nr).toInt64) (F_5mix_hh ((L_5whereNow_5 (nI (v)) (z 3) z ne).toInt64) (L_5mixVolume_27 v z hh (4 * lv z v))))
/-! what lies behind the cells is never written -/
theorem hi_scans {z : Nat → Int32} {c v k i : Nat} (hc : c < 4) (hv : v < 12) (hk : k < 40) (hi : 1863 ≤ i) : F_5scans_z c v k z i = z i := by
  unfold F_5scans_z
  (repeat' split) <;> (repeat rw [upd_ne (by omega)])
theorem hi_min4 {z : Nat → Int32} {nv nc nr ne i : Nat} (hZ : ZI z nv nc nr ne) (hi : 1863 ≤ i) : ∀ j : Nat, j ≤ 4 → (L_5minute_4 nv z j).2 i = z i
  | 0, _ => rfl
  | j + 1, h => by
    have ih := hi_min4 hZ hi j (by omega)
    have iz := ZI_min4 hZ j (by omega)
    show (B_5minute_4 nv j (L_5minute_4 nv z j).1 (L_5minute_4 nv z j).2).2 i = z i
    unfold B_5minute_4
    split
    · rename_i h0
      obtain ⟨h1, h2, h3, h4⟩ := idZ_0 iz h0
      exact (hi_scans (by omega) (by have := iz.1.2; omega) h4 hi).trans ih
    · exact ih
theorem hi_min42 {z : Nat → Int32} {nv nc nr ne i : Nat} (hZ : ZI z nv nc nr ne) (hi : 1863 ≤ i) : ∀ j : Nat, j ≤ 3 → L_5minute_42 nv nc z j i = z i
  | 0, _ => hi_min4 hZ hi nc hZ.2.1.2
  | j + 1, h => by
    have ih := hi_min42 hZ hi j (by omega)
    show B_5minute_42 j (L_5minute_42 nv nc z j) i = z i
    unfold B_5minute_42
    split <;> (rw [upd_ne (by omega)]; exact ih)
theorem hi_min90 {z : Nat → Int32} {nv nc nr ne i : Nat} (hZ : ZI z nv nc nr ne) (hi : 1863 ≤ i) : ∀ j : Nat, j ≤ 12 → L_5minute_90 nv nc nr z j i = z i
  | 0, _ => hi_min42 hZ hi nr hZ.2.2.1.2
  | j + 1, h => by
    have ih := hi_min90 hZ hi j (by omega)
    show B_5minute_90 j (L_5minute_90 nv nc nr z j) i = z i
    unfold B_5minute_90
    split <;> (rw [upd_ne (by omega)]; exact ih)
theorem hi_minute {z : Nat → Int32} {nv nc nr ne i : Nat} (hZ : ZI z nv nc nr ne) (hi : 1863 ≤ i) : F_5minute_z nv nc nr z i = z i := by
  unfold F_5minute_z
  rw [upd_ne (by omega)]
  exact hi_min90 hZ hi nv hZ.1.2
theorem hi_mnN {z : Nat → Int32} {nv nc nr ne i : Nat} (hZ : ZI z nv nc nr ne) (hi : 1863 ≤ i) : ∀ j : Nat, mnN nv nc nr z j i = z i
  | 0 => rfl
  | j + 1 => (hi_minute (ZI_mnN hZ j) hi).trans (hi_mnN hZ hi j)
theorem cpK_back {z y sa : Nat → Int32} (h : ∀ i, 1863 ≤ i → y i = z i) : cpK (cpK z sa 1863) y 1863 = z := by
  funext i
  unfold cpK
  by_cases h1 : i < 1863
  · rw [if_pos h1, if_pos h1]
  · rw [if_neg h1, h i (by omega)]
theorem pN_back {z sa : Nat → Int32} {nv nc nr ne m : Nat} (hZ : ZI z nv nc nr ne) : F_5passedNow_z m nv nc nr z sa = z := by
  unfold F_5passedNow_z
  rw [pN_mn]
  exact cpK_back fun i hi => hi_mnN hZ hi m
theorem W_doneNow_back {z sa : Nat → Int32} {nv nc nr ne : Nat} : ∀ (f j : Nat) (y : Nat → Int32), ZI y nv nc nr ne → (∀ i, 1863 ≤ i → y i = z i) → (W_5doneNow_6 nv nc nr z sa f j y).2 = z
  | 0, j, y, hy, h => by
    unfold W_5doneNow_6
    split <;> exact cpK_back h
  | f + 1, j, y, hy, h => by
    unfold W_5doneNow_6
    split
    · split <;> exact cpK_back h
    · exact W_doneNow_back f (j + 1) _ (ZI_minute hy) fun i hi => (hi_minute hy hi).trans (h i hi)
theorem dN_back {z sa : Nat → Int32} {nv nc nr ne : Nat} (hZ : ZI z nv nc nr ne) : F_5doneNow_z nv nc nr z sa = z := W_doneNow_back 2001 0 z hZ fun _ _ => rfl
end
section
theorem i_nx (t : Nat) : nI 11 - nI (t + 1) + nI 1 = nI 11 - nI t := by
  rw [← nI_add]
  grind
theorem nI_v {t : Nat} (h : t ≤ 12) : QI 12 (nI 11 - nI t) := by
  by_cases h1 : t = 12
  · subst h1; exact Or.inl (by decide)
  · exact Or.inr ⟨11 - t, by omega, pk_sub (by omega)⟩
theorem nI_v11 {t : Nat} (h : t ≤ 12) : ¬ (nI 11 - nI (t + 1) = nI 11) := by
  intro e
  by_cases h1 : t < 11
  · rw [pk_sub (by omega), nI_eq (by omega) (by decide)] at e
    omega
  · obtain rfl | rfl : t = 11 ∨ t = 12 := by omega
    · exact absurd e (by decide)
    · exact absurd e (by decide)
/-- the search of the reference: what it keeps is the picks, the best picks, their sum -/
abbrev SG : Type := (Nat → Int32) × (Nat → Int32) × Int32
def dst (ga : Nat → Int32) (D : Nat) (sub : SG → SG) (t : Nat) (s : SG) : SG := if F_5canPick D ga (upd s.1 D (nI 11 - nI t)) = 0 then (upd s.1 D (nI 11 - nI t), s.2) else sub (upd s.1 D (nI 11 - nI t), s.2)
def dv (ga : Nat → Int32) (D : Nat) (sub : SG → SG) : Nat → SG → SG
  | 0, s => s
  | t + 1, s => dv ga D sub t (dst ga D sub t s)
def sub3 (ga : Nat → Int32) (s : SG) : SG := (s.1, F_5keepPicks_be ga s.1 s.2.1 s.2.2, F_5keepPicks_bm ga s.1 s.2.1 s.2.2)
def sub2 (ga : Nat → Int32) (s : SG) : SG := dv ga 3 (sub3 ga) 13 (upd s.1 3 (-2), s.2)
def sub1 (ga : Nat → Int32) (s : SG) : SG := dv ga 2 (sub2 ga) 13 (upd s.1 2 (-2), s.2)
def sub0 (ga : Nat → Int32) (s : SG) : SG := dv ga 1 (sub1 ga) 13 (upd s.1 1 (-2), s.2)
def sg0 (ga pi be : Nat → Int32) : SG := dv ga 0 (sub0 ga) 13 (upd pi 0 (-2), be, -1)
theorem dv_lo {ga : Nat → Int32} {D : Nat} {sub : SG → SG} (hs : ∀ s j, j ≤ D → (sub s).1 j = s.1 j) : ∀ (t : Nat) (s : SG) (j : Nat), j < D → (dv ga D sub t s).1 j = s.1 j
  | 0, s, j, _ => rfl
  | t + 1, s, j, h => by
    have h1 : (dst ga D sub t s).1 j = s.1 j := by
      unfold dst
      split
      · exact upd_ne (by omega)
      · rw [hs _ j (by omega)]; exact upd_ne (by omega)
    exact (dv_lo hs t _ j h).trans h1
theorem sub3_lo (ga : Nat → Int32) (s : SG) (j : Nat) (_ : j ≤ 3) : (sub3 ga s).1 j = s.1 j := rfl
theorem sub2_lo (ga : Nat → Int32) (s : SG) (j : Nat) (h : j ≤ 2) : (sub2 ga s).1 j = s.1 j := (dv_lo (sub3_lo ga) 13 _ j (by omega)).trans (upd_ne (by omega))
theorem sub1_lo (ga : Nat → Int32) (s : SG) (j : Nat) (h : j ≤ 1) : (sub1 ga s).1 j = s.1 j := (dv_lo (sub2_lo ga) 13 _ j (by omega)).trans (upd_ne (by omega))
theorem sub0_lo (ga : Nat → Int32) (s : SG) (j : Nat) (h : j ≤ 0) : (sub0 ga s).1 j = s.1 j := (dv_lo (sub1_lo ga) 13 _ j (by omega)).trans (upd_ne (by omega))
def F_5layBest_ga (m : Nat) (nv : Nat) (nc : Nat) (z : Nat → Int32) (ga : Nat → Int32) : Nat → Int32 := (F_5layGains_ga m nv nc z ga)
def F_5layBest_pi (m : Nat) (nv : Nat) (nc : Nat) (z : Nat → Int32) (ga : Nat → Int32) (pi : Nat → Int32) (be : Nat → Int32) : Nat → Int32 := ((sg0 (F_5layGains_ga m nv nc z ga) pi be).1)
def F_5layBest_be (m : Nat) (nv : Nat) (nc : Nat) (z : Nat → Int32) (ga : Nat → Int32) (pi : Nat → Int32) (be : Nat → Int32) : Nat → Int32 := ((sg0 (F_5layGains_ga m nv nc z ga) pi be).2.1)
def F_5layBest_bm (m : Nat) (nv : Nat) (nc : Nat) (z : Nat → Int32) (ga : Nat → Int32) (pi : Nat → Int32) (be : Nat → Int32) : Int32 := ((sg0 (F_5layGains_ga m nv nc z ga) pi be).2.2)
end
section
def B_5mixAhead_17 (nv : Nat) (nc : Nat) (z : Nat → Int32) (ga : Nat → Int32) (pi : Nat → Int32) (be : Nat → Int32) (j17 : Nat) (y17_hh : Int64) : (Int64) := (F_5mix_hh ((F_5bestNow j17 (F_5layBest_be 20 nv nc z ga pi be) (F_5layBest_bm 20 nv nc z ga pi be)).toInt64) y17_hh)
def L_5mixAhead_17 (nv : Nat) (nc : Nat) (nr : Nat) (z : Nat → Int32) (sa : Nat → Int32) (ga : Nat → Int32) (pi : Nat → Int32) (be : Nat → Int32) (hh : Int64) : Nat → (Int64)
  | 0 => F_5mix_hh ((F_5doneNow nv nc nr z sa).toInt64) hh
  | j + 1 => B_5mixAhead_17 nv nc z ga pi be j (L_5mixAhead_17 nv nc nr z sa ga pi be hh  j)
def F_5mixAhead_sa (z : Nat → Int32) (sa : Nat → Int32) : Nat → Int32 := (F_5doneNow_sa z sa)
def F_5mixAhead_ga (nv : Nat) (nc : Nat) (z : Nat → Int32) (ga : Nat → Int32) : Nat → Int32 := (F_5layBest_ga 20 nv nc z ga)
def F_5mixAhead_pi (nv : Nat) (nc : Nat) (z : Nat → Int32) (ga : Nat → Int32) (pi : Nat → Int32) (be : Nat → Int32) : Nat → Int32 := (F_5layBest_pi 20 nv nc z ga pi be)
def F_5mixAhead_be (nv : Nat) (nc : Nat) (z : Nat → Int32) (ga : Nat → Int32) (pi : Nat → Int32) (be : Nat → Int32) : Nat → Int32 := (F_5layBest_be 20 nv nc z ga pi be)
def F_5mixAhead_bm (nv : Nat) (nc : Nat) (z : Nat → Int32) (ga : Nat → Int32) (pi : Nat → Int32) (be : Nat → Int32) : Int32 := (F_5layBest_bm 20 nv nc z ga pi be)
def F_5mixAhead_hh (nv : Nat) (nc : Nat) (nr : Nat) (z : Nat → Int32) (sa : Nat → Int32) (ga : Nat → Int32) (pi : Nat → Int32) (be : Nat → Int32) (sv : Int32) (hh : Int64) : Int64 := (F_5mix_hh ((F_5openNow nv nc z sv).toInt64) (L_5mixAhead_17 nv nc nr z sa ga pi be hh 5))
def B_5digest_14 (nv : Nat) (nc : Nat) (z : Nat → Int32) (sv : Int32) (j14 : Nat) (y14_hh : Int64) : (Int64) := (F_5mix_hh ((F_5counted j14 nv nc z sv).toInt64) y14_hh)
def L_5digest_14 (nv : Nat) (nc : Nat) (z : Nat → Int32) (sv : Int32) : Nat → (Int64)
  | 0 => 2341
  | j + 1 => B_5digest_14 nv nc z sv j (L_5digest_14 nv nc z sv  j)
def B_5digest_38 (z : Nat → Int32) (j38 : Nat) (y38_hh : Int64) : (Int64) := (F_5mix_hh ((z (7 + j38)).toInt64) y38_hh)
def L_5digest_38 (nv : Nat) (nc : Nat) (z : Nat → Int32) (sv : Int32) : Nat → (Int64)
  | 0 => L_5digest_14 nv nc z sv 14
  | j + 1 => B_5digest_38 z j (L_5digest_38 nv nc z sv  j)
def B_5digest_65 (nr : Nat) (ne : Nat) (z : Nat → Int32) (j65 : Nat) (y65_hh : Int64) : (Int64) := (F_5mixVolume_hh j65 nr ne z y65_hh)
def L_5digest_65 (nv : Nat) (nc : Nat) (nr : Nat) (ne : Nat) (z : Nat → Int32) (sv : Int32) : Nat → (Int64)
  | 0 => L_5digest_38 nv nc z sv 4
  | j + 1 => B_5digest_65 nr ne z j (L_5digest_65 nv nc nr ne z sv  j)
def B_5digest_100 (nv : Nat) (z : Nat → Int32) (j88 : Nat) (j100 : Nat) (y100_hh : Int64) : (Int64) := (F_5mix_hh ((F_5cradleNow j88 j100 nv z).toInt64) y100_hh)
def L_5digest_100 (nv : Nat) (z : Nat → Int32) (j88 : Nat) (y88_hh : Int64) : Nat → (Int64)
  | 0 => y88_hh
  | j + 1 => B_5digest_100 nv z j88 j (L_5digest_100 nv z j88 y88_hh  j)
def B_5digest_88 (nv : Nat) (nc : Nat) (nr : Nat) (z : Nat → Int32) (j88 : Nat) (y88_hh : Int64) (y88_sa : Nat → Int32) : (Int64) × (Nat → Int32) := (F_5mix_hh ((F_5passedNow 30 (nI (j88)) nv nc nr z).toInt64) (L_5digest_100 nv z j88 y88_hh 6), F_5passedNow_sa z y88_sa)
def L_5digest_88 (nv : Nat) (nc : Nat) (nr : Nat) (ne : Nat) (z : Nat → Int32) (sa : Nat → Int32) (sv : Int32) : Nat → (Int64) × (Nat → Int32)
  | 0 => (L_5digest_65 nv nc nr ne z sv nv, sa)
  | j + 1 => B_5digest_88 nv nc nr z j ((L_5digest_88 nv nc nr ne z sa sv  j).1) ((L_5digest_88 nv nc nr ne z sa sv  j).2)
def B_5digest_155 (z : Nat → Int32) (j143 : Nat) (j155 : Nat) (y155_hh : Int64) : (Int64) := (F_5mix_hh ((z (111 + 4 * j143 + j155)).toInt64) y155_hh)
def L_5digest_155 (z : Nat → Int32) (j143 : Nat) (y143_hh : Int64) : Nat → (Int64)
  | 0 => y143_hh
  | j + 1 => B_5digest_155 z j143 j (L_5digest_155 z j143 y143_hh  j)
def B_5digest_143 (z : Nat → Int32) (j143 : Nat) (y143_hh : Int64) : (Int64) := (L_5digest_155 z j143 y143_hh 4)
def L_5digest_143 (nv : Nat) (nc : Nat) (nr : Nat) (ne : Nat) (z : Nat → Int32) (sa : Nat → Int32) (sv : Int32) : Nat → (Int64)
  | 0 => (L_5digest_88 nv nc nr ne z sa sv nc).1
  | j + 1 => B_5digest_143 z j (L_5digest_143 nv nc nr ne z sa sv  j)
def B_5digest_185 (z : Nat → Int32) (j185 : Nat) (y185_hh : Int64) : (Int64) := (F_5mix_hh ((z (123 + j185)).toInt64) y185_hh)
def L_5digest_185 (nv : Nat) (nc : Nat) (nr : Nat) (ne : Nat) (z : Nat → Int32) (sa : Nat → Int32) (sv : Int32) : Nat → (Int64)
  | 0 => L_5digest_143 nv nc nr ne z sa sv nr
  | j + 1 => B_5digest_185 z j (L_5digest_185 nv nc nr ne z sa sv  j)
def B_5digest_232 (te : Nat → Int32) (j232 : Nat) (y232_hh : Int64) : (Int64) := (F_5mix_hh ((te j232).toInt64) y232_hh)
def L_5digest_232 (nv : Nat) (nc : Nat) (nr : Nat) (ne : Nat) (q : Nat) (z : Nat → Int32) (sa : Nat → Int32) (te : Nat → Int32) (ga : Nat → Int32) (pi : Nat → Int32) (be : Nat → Int32) (sv : Int32) : Nat → (Int64)
  | 0 => F_5mix_hh ((nI (q)).toInt64) (F_5mixAhead_hh nv nc nr z ((L_5digest_88 nv nc nr ne z sa sv nc).2) ga pi be sv (L_5digest_185 nv nc nr ne z sa sv (5 * ne)))
  | j + 1 => B_5digest_232 te j (L_5digest_232 nv nc nr ne q z sa te ga pi be sv  j)
def F_5digest (nv : Nat) (nc : Nat) (nr : Nat) (ne : Nat) (q : Nat) (z : Nat → Int32) (sa : Nat → Int32) (te : Nat → Int32) (ga : Nat → Int32) (pi : Nat → Int32) (be : Nat → Int32) (sv : Int32) : Int64 := (L_5digest_232 nv nc nr ne q z sa te ga pi be sv q)
def F_5digest_sa (nv : Nat) (nc : Nat) (nr : Nat) (ne : Nat) (z : Nat → Int32) (sa : Nat → Int32) (sv : Int32) : Nat → Int32 := (F_5mixAhead_sa z ((L_5digest_88 nv nc nr ne z sa sv nc).2))
def F_5digest_ga (nv : Nat) (nc : Nat) (z : Nat → Int32) (ga : Nat → Int32) : Nat → Int32 := (F_5mixAhead_ga nv nc z ga)
def F_5digest_pi (nv : Nat) (nc : Nat) (z : Nat → Int32) (ga : Nat → Int32) (pi : Nat → Int32) (be : Nat → Int32) : Nat → Int32 := (F_5mixAhead_pi nv nc z ga pi be)
def F_5digest_be (nv : Nat) (nc : Nat) (z : Nat → Int32) (ga : Nat → Int32) (pi : Nat → Int32) (be : Nat → Int32) : Nat → Int32 := (F_5mixAhead_be nv nc z ga pi be)
def F_5digest_bm (nv : Nat) (nc : Nat) (z : Nat → Int32) (ga : Nat → Int32) (pi : Nat → Int32) (be : Nat → Int32) : Int32 := (F_5mixAhead_bm nv nc z ga pi be)
def F_5digest_th : Int32 := (nI (0))
def F_5digest_hh (nv : Nat) (nc : Nat) (nr : Nat) (ne : Nat) (q : Nat) (z : Nat → Int32) (sa : Nat → Int32) (te : Nat → Int32) (ga : Nat → Int32) (pi : Nat → Int32) (be : Nat → Int32) (sv : Int32) : Int64 := (L_5digest_232 nv nc nr ne q z sa te ga pi be sv q)
end
section
/-- an int that is a number -/
abbrev isN (x : Int32) : Prop := x = nI x.toNatClampNeg
def F_5goesOn (b : Int32) : Int32 := if b = 0 then b else b
def F_5goesOn_sta (b : Int32) (nx : Int32) (sta : Int32) : Int32 := if b = 0 then sta else nx
def F_5takesFirst (c : Int32) (fr : Nat → Int32) (en : Int32) (sta : Int32) : Int32 := if (fr (en.toNatClampNeg)) ≤ 0 then if (sta.toNatClampNeg) = 0 then (wi (c - (nI (48))) (nI (0)) (nI (9))) else if (sta.toNatClampNeg) = 1 then if (wi (c - (nI (48))) (nI (0)) (nI (9))) = 0 then if c = (nI (45)) then if (nI (39)) ≤ (fr (en.toNatClampNeg)) then (nI (0)) else (nI (1)) else if c = (nI (58)) then (nI (1)) else (nI (0)) else (nI (0)) else if c = (nI (45)) then if (nI (39)) ≤ (fr (en.toNatClampNeg)) then (nI (0)) else (nI (1)) else if c = (nI (58)) then (nI (1)) else (nI (0)) else if (nI (40)) ≤ (((nI (10)) * (fr (en.toNatClampNeg))) + (c - (nI (48)))) then if (sta.toNatClampNeg) = 0 then (wi (c - (nI (48))) (nI (0)) (nI (9))) else if (sta.toNatClampNeg) = 1 then if (wi (c - (nI (48))) (nI (0)) (nI (9))) = 0 then if c = (nI (45)) then if (nI (39)) ≤ (fr (en.toNatClampNeg)) then (nI (0)) else (nI (1)) else if c = (nI (58)) then (nI (1)) else (nI (0)) else (nI (0)) else if c = (nI (45)) then if (nI (39)) ≤ (fr (en.toNatClampNeg)) then (nI (0)) else (nI (1)) else if c = (nI (58)) then (nI (1)) else (nI (0)) else if (sta.toNatClampNeg) = 0 then (wi (c - (nI (48))) (nI (0)) (nI (9))) else if (sta.toNatClampNeg) = 1 then if (wi (c - (nI (48))) (nI (0)) (nI (9))) = 0 then if c = (nI (45)) then if (nI (39)) ≤ (fr (en.toNatClampNeg)) then (nI (0)) else (nI (1)) else if c = (nI (58)) then (nI (1)) else (nI (0)) else (nI (1)) else if c = (nI (45)) then if (nI (39)) ≤ (fr (en.toNatClampNeg)) then (nI (0)) else (nI (1)) else if c = (nI (58)) then (nI (1)) else (nI (0))
theorem F_5takesFirst_01 (c : Int32) (fr : Nat → Int32) (en : Int32) (sta : Int32) : F_5takesFirst c fr en sta = nI 0 ∨ F_5takesFirst c fr en sta = nI 1 := by
  unfold F_5takesFirst
  (repeat' split) <;> first | exact Or.inl rfl | exact Or.inr rfl | exact wi01 _ _ _
def F_5takesFirst_fr (c : Int32) (fr : Nat → Int32) (en : Int32) (sta : Int32) : Nat → Int32 := if (fr (en.toNatClampNeg)) ≤ 0 then if (sta.toNatClampNeg) = 0 then (upd fr (en.toNatClampNeg) (c - (nI (48)))) else if (sta.toNatClampNeg) = 1 then if (wi (c - (nI (48))) (nI (0)) (nI (9))) = 0 then if c = (nI (45)) then if (nI (39)) ≤ (fr (en.toNatClampNeg)) then fr else fr else if c = (nI (58)) then fr else fr else (upd fr (en.toNatClampNeg) (fr (en.toNatClampNeg))) else if c = (nI (45)) then if (nI (39)) ≤ (fr (en.toNatClampNeg)) then fr else fr else if c = (nI (58)) then fr else fr else if (nI (40)) ≤ (((nI (10)) * (fr (en.toNatClampNeg))) + (c - (nI (48)))) then if (sta.toNatClampNeg) = 0 then (upd fr (en.toNatClampNeg) (c - (nI (48)))) else if (sta.toNatClampNeg) = 1 then if (wi (c - (nI (48))) (nI (0)) (nI (9))) = 0 then if c = (nI (45)) then if (nI (39)) ≤ (fr (en.toNatClampNeg)) then fr else fr else if c = (nI (58)) then fr else fr else (upd fr (en.toNatClampNeg) (fr (en.toNatClampNeg))) else if c = (nI (45)) then if (nI (39)) ≤ (fr (en.toNatClampNeg)) then fr else fr else if c = (nI (58)) then fr else fr else if (sta.toNatClampNeg) = 0 then (upd fr (en.toNatClampNeg) (c - (nI (48)))) else if (sta.toNatClampNeg) = 1 then if (wi (c - (nI (48))) (nI (0)) (nI (9))) = 0 then if c = (nI (45)) then if (nI (39)) ≤ (fr (en.toNatClampNeg)) then fr else fr else if c = (nI (58)) then fr else fr else (upd fr (en.toNatClampNeg) (((nI (10)) * (fr (en.toNatClampNeg))) + (c - (nI (48))))) else if c = (nI (45)) then if (nI (39)) ≤ (fr (en.toNatClampNeg)) then fr else fr else if c = (nI (58)) then fr else fr
def F_5takesFirst_to (c : Int32) (fr : Nat → Int32) (to : Nat → Int32) (en : Int32) (sta : Int32) : Nat → Int32 := if (fr (en.toNatClampNeg)) ≤ 0 then if (sta.toNatClampNeg) = 0 then (upd to (en.toNatClampNeg) (-1)) else if (sta.toNatClampNeg) = 1 then if (wi (c - (nI (48))) (nI (0)) (nI (9))) = 0 then if c = (nI (45)) then if (nI (39)) ≤ (fr (en.toNatClampNeg)) then to else to else if c = (nI (58)) then to else to else to else if c = (nI (45)) then if (nI (39)) ≤ (fr (en.toNatClampNeg)) then to else to else if c = (nI (58)) then to else to else if (nI (40)) ≤ (((nI (10)) * (fr (en.toNatClampNeg))) + (c - (nI (48)))) then if (sta.toNatClampNeg) = 0 then (upd to (en.toNatClampNeg) (-1)) else if (sta.toNatClampNeg) = 1 then if (wi (c - (nI (48))) (nI (0)) (nI (9))) = 0 then if c = (nI (45)) then if (nI (39)) ≤ (fr (en.toNatClampNeg)) then to else to else if c = (nI (58)) then to else to else to else if c = (nI (45)) then if (nI (39)) ≤ (fr (en.toNatClampNeg)) then to else to else if c = (nI (58)) then to else to else if (sta.toNatClampNeg) = 0 then (upd to (en.toNatClampNeg) (-1)) else if (sta.toNatClampNeg) = 1 then if (wi (c - (nI (48))) (nI (0)) (nI (9))) = 0 then if c = (nI (45)) then if (nI (39)) ≤ (fr (en.toNatClampNeg)) then to else to else if c = (nI (58)) then to else to else to else if c = (nI (45)) then if (nI (39)) ≤ (fr (en.toNatClampNeg)) then to else to else if c = (nI (58)) then to else to
def F_5takesFirst_sta (c : Int32) (fr : Nat → Int32) (en : Int32) (sta : Int32) : Int32 := if (fr (en.toNatClampNeg)) ≤ 0 then if (sta.toNatClampNeg) = 0 then (F_5goesOn_sta (wi (c - (nI (48))) (nI (0)) (nI (9))) (nI (1)) sta) else if (sta.toNatClampNeg) = 1 then if (wi (c - (nI (48))) (nI (0)) (nI (9))) = 0 then if c = (nI (45)) then if (nI (39)) ≤ (fr (en.toNatClampNeg)) then (F_5goesOn_sta (nI (0)) (nI (3)) sta) else (F_5goesOn_sta (nI (1)) (nI (3)) sta) else if c = (nI (58)) then (F_5goesOn_sta (nI (1)) (nI (6)) sta) else (F_5goesOn_sta (nI (0)) (nI (6)) sta) else (F_5goesOn_sta (nI (0)) (nI (2)) sta) else if c = (nI (45)) then if (nI (39)) ≤ (fr (en.toNatClampNeg)) then (F_5goesOn_sta (nI (0)) (nI (3)) sta) else (F_5goesOn_sta (nI (1)) (nI (3)) sta) else if c = (nI (58)) then (F_5goesOn_sta (nI (1)) (nI (6)) sta) else (F_5goesOn_sta (nI (0)) (nI (6)) sta) else if (nI (40)) ≤ (((nI (10)) * (fr (en.toNatClampNeg))) + (c - (nI (48)))) then if (sta.toNatClampNeg) = 0 then (F_5goesOn_sta (wi (c - (nI (48))) (nI (0)) (nI (9))) (nI (1)) sta) else if (sta.toNatClampNeg) = 1 then if (wi (c - (nI (48))) (nI (0)) (nI (9))) = 0 then if c = (nI (45)) then if (nI (39)) ≤ (fr (en.toNatClampNeg)) then (F_5goesOn_sta (nI (0)) (nI (3)) sta) else (F_5goesOn_sta (nI (1)) (nI (3)) sta) else if c = (nI (58)) then (F_5goesOn_sta (nI (1)) (nI (6)) sta) else (F_5goesOn_sta (nI (0)) (nI (6)) sta) else (F_5goesOn_sta (nI (0)) (nI (2)) sta) else if c = (nI (45)) then if (nI (39)) ≤ (fr (en.toNatClampNeg)) then (F_5goesOn_sta (nI (0)) (nI (3)) sta) else (F_5goesOn_sta (nI (1)) (nI (3)) sta) else if c = (nI (58)) then (F_5goesOn_sta (nI (1)) (nI (6)) sta) else (F_5goesOn_sta (nI (0)) (nI (6)) sta) else if (sta.toNatClampNeg) = 0 then (F_5goesOn_sta (wi (c - (nI (48))) (nI (0)) (nI (9))) (nI (1)) sta) else if (sta.toNatClampNeg) = 1 then if (wi (c - (nI (48))) (nI (0)) (nI (9))) = 0 then if c = (nI (45)) then if (nI (39)) ≤ (fr (en.toNatClampNeg)) then (F_5goesOn_sta (nI (0)) (nI (3)) sta) else (F_5goesOn_sta (nI (1)) (nI (3)) sta) else if c = (nI (58)) then (F_5goesOn_sta (nI (1)) (nI (6)) sta) else (F_5goesOn_sta (nI (0)) (nI (6)) sta) else (F_5goesOn_sta (nI (1)) (nI (2)) sta) else if c = (nI (45)) then if (nI (39)) ≤ (fr (en.toNatClampNeg)) then (F_5goesOn_sta (nI (0)) (nI (3)) sta) else (F_5goesOn_sta (nI (1)) (nI (3)) sta) else if c = (nI (58)) then (F_5goesOn_sta (nI (1)) (nI (6)) sta) else (F_5goesOn_sta (nI (0)) (nI (6)) sta)
def F_5takesSecond (c : Int32) (fr : Nat → Int32) (to : Nat → Int32) (en : Int32) (sta : Int32) : Int32 := if (sta.toNatClampNeg) = 3 then if (c - (nI (48))) ≤ (fr (en.toNatClampNeg)) then if (wi (c - (nI (48))) (nI (1)) (nI (3))) = 0 then if (wi (c - (nI (48))) (nI (1)) (nI (9))) = 0 then (nI (0)) else (nI (0)) else if (((nI (10)) * (c - (nI (48)))) + (nI (9))) ≤ (fr (en.toNatClampNeg)) then if (wi (c - (nI (48))) (nI (1)) (nI (9))) = 0 then (nI (0)) else (nI (0)) else if (wi (c - (nI (48))) (nI (1)) (nI (9))) = 0 then (nI (0)) else (nI (1)) else if (wi (c - (nI (48))) (nI (1)) (nI (3))) = 0 then if (wi (c - (nI (48))) (nI (1)) (nI (9))) = 0 then (nI (0)) else (nI (1)) else if (((nI (10)) * (c - (nI (48)))) + (nI (9))) ≤ (fr (en.toNatClampNeg)) then if (wi (c - (nI (48))) (nI (1)) (nI (9))) = 0 then (nI (0)) else (nI (1)) else if (wi (c - (nI (48))) (nI (1)) (nI (9))) = 0 then (nI (0)) else (nI (1)) else if (sta.toNatClampNeg) = 4 then if (wi (c - (nI (48))) (nI (0)) (nI (9))) = 0 then if c = (nI (58)) then if (to (en.toNatClampNeg)) ≤ (fr (en.toNatClampNeg)) then (nI (0)) else (nI (1)) else (nI (0)) else if (((nI (10)) * (to (en.toNatClampNeg))) + (c - (nI (48)))) ≤ (fr (en.toNatClampNeg)) then (nI (0)) else if (nI (40)) ≤ (((nI (10)) * (to (en.toNatClampNeg))) + (c - (nI (48)))) then (nI (0)) else (nI (1)) else if c = (nI (58)) then if (to (en.toNatClampNeg)) ≤ (fr (en.toNatClampNeg)) then (nI (0)) else (nI (1)) else (nI (0))
theorem F_5takesSecond_01 (c : Int32) (fr : Nat → Int32) (to : Nat → Int32) (en : Int32) (sta : Int32) : F_5takesSecond c fr to en sta = nI 0 ∨ F_5takesSecond c fr to en sta = nI 1 := by
  unfold F_5takesSecond
  (repeat' split) <;> first | exact Or.inl rfl | exact Or.inr rfl | exact wi01 _ _ _
def F_5takesSecond_to (c : Int32) (fr : Nat → Int32) (to : Nat → Int32) (en : Int32) (sta : Int32) : Nat → Int32 := if (sta.toNatClampNeg) = 3 then if (c - (nI (48))) ≤ (fr (en.toNatClampNeg)) then if (wi (c - (nI (48))) (nI (1)) (nI (3))) = 0 then if (wi (c - (nI (48))) (nI (1)) (nI (9))) = 0 then (upd to (en.toNatClampNeg) (c - (nI (48)))) else (upd to (en.toNatClampNeg) (c - (nI (48)))) else if (((nI (10)) * (c - (nI (48)))) + (nI (9))) ≤ (fr (en.toNatClampNeg)) then if (wi (c - (nI (48))) (nI (1)) (nI (9))) = 0 then (upd to (en.toNatClampNeg) (c - (nI (48)))) else (upd to (en.toNatClampNeg) (c - (nI (48)))) else if (wi (c - (nI (48))) (nI (1)) (nI (9))) = 0 then (upd to (en.toNatClampNeg) (c - (nI (48)))) else (upd to (en.toNatClampNeg) (c - (nI (48)))) else if (wi (c - (nI (48))) (nI (1)) (nI (3))) = 0 then if (wi (c - (nI (48))) (nI (1)) (nI (9))) = 0 then (upd to (en.toNatClampNeg) (c - (nI (48)))) else (upd to (en.toNatClampNeg) (c - (nI (48)))) else if (((nI (10)) * (c - (nI (48)))) + (nI (9))) ≤ (fr (en.toNatClampNeg)) then if (wi (c - (nI (48))) (nI (1)) (nI (9))) = 0 then (upd to (en.toNatClampNeg) (c - (nI (48)))) else (upd to (en.toNatClampNeg) (c - (nI (48)))) else if (wi (c - (nI (48))) (nI (1)) (nI (9))) = 0 then (upd to (en.toNatClampNeg) (c - (nI (48)))) else (upd to (en.toNatClampNeg) (c - (nI (48)))) else if (sta.toNatClampNeg) = 4 then if (wi (c - (nI (48))) (nI (0)) (nI (9))) = 0 then if c = (nI (58)) then if (to (en.toNatClampNeg)) ≤ (fr (en.toNatClampNeg)) then to else to else to else if (((nI (10)) * (to (en.toNatClampNeg))) + (c - (nI (48)))) ≤ (fr (en.toNatClampNeg)) then (upd to (en.toNatClampNeg) (to (en.toNatClampNeg))) else if (nI (40)) ≤ (((nI (10)) * (to (en.toNatClampNeg))) + (c - (nI (48)))) then (upd to (en.toNatClampNeg) (to (en.toNatClampNeg))) else (upd to (en.toNatClampNeg) (((nI (10)) * (to (en.toNatClampNeg))) + (c - (nI (48))))) else if c = (nI (58)) then if (to (en.toNatClampNeg)) ≤ (fr (en.toNatClampNeg)) then to else to else to
def F_5takesSecond_sta (c : Int32) (fr : Nat → Int32) (to : Nat → Int32) (en : Int32) (sta : Int32) : Int32 := if (sta.toNatClampNeg) = 3 then if (c - (nI (48))) ≤ (fr (en.toNatClampNeg)) then if (wi (c - (nI (48))) (nI (1)) (nI (3))) = 0 then if (wi (c - (nI (48))) (nI (1)) (nI (9))) = 0 then (F_5goesOn_sta (nI (0)) (nI (4)) sta) else (F_5goesOn_sta (nI (0)) (nI (4)) sta) else if (((nI (10)) * (c - (nI (48)))) + (nI (9))) ≤ (fr (en.toNatClampNeg)) then if (wi (c - (nI (48))) (nI (1)) (nI (9))) = 0 then (F_5goesOn_sta (nI (0)) (nI (4)) sta) else (F_5goesOn_sta (nI (0)) (nI (4)) sta) else if (wi (c - (nI (48))) (nI (1)) (nI (9))) = 0 then (F_5goesOn_sta (nI (0)) (nI (4)) sta) else (F_5goesOn_sta (nI (1)) (nI (4)) sta) else if (wi (c - (nI (48))) (nI (1)) (nI (3))) = 0 then if (wi (c - (nI (48))) (nI (1)) (nI (9))) = 0 then (F_5goesOn_sta (nI (0)) (nI (4)) sta) else (F_5goesOn_sta (nI (1)) (nI (4)) sta) else if (((nI (10)) * (c - (nI (48)))) + (nI (9))) ≤ (fr (en.toNatClampNeg)) then if (wi (c - (nI (48))) (nI (1)) (nI (9))) = 0 then (F_5goesOn_sta (nI (0)) (nI (4)) sta) else (F_5goesOn_sta (nI (1)) (nI (4)) sta) else if (wi (c - (nI (48))) (nI (1)) (nI (9))) = 0 then (F_5goesOn_sta (nI (0)) (nI (4)) sta) else (F_5goesOn_sta (nI (1)) (nI (4)) sta) else if (sta.toNatClampNeg) = 4 then if (wi (c - (nI (48))) (nI (0)) (nI (9))) = 0 then if c = (nI (58)) then if (to (en.toNatClampNeg)) ≤ (fr (en.toNatClampNeg)) then (F_5goesOn_sta (nI (0)) (nI (6)) sta) else (F_5goesOn_sta (nI (1)) (nI (6)) sta) else (F_5goesOn_sta (nI (0)) (nI (6)) sta) else if (((nI (10)) * (to (en.toNatClampNeg))) + (c - (nI (48)))) ≤ (fr (en.toNatClampNeg)) then (F_5goesOn_sta (nI (0)) (nI (5)) sta) else if (nI (40)) ≤ (((nI (10)) * (to (en.toNatClampNeg))) + (c - (nI (48)))) then (F_5goesOn_sta (nI (0)) (nI (5)) sta) else (F_5goesOn_sta (nI (1)) (nI (5)) sta) else if c = (nI (58)) then if (to (en.toNatClampNeg)) ≤ (fr (en.toNatClampNeg)) then (F_5goesOn_sta (nI (0)) (nI (6)) sta) else (F_5goesOn_sta (nI (1)) (nI (6)) sta) else (F_5goesOn_sta (nI (0)) (nI (6)) sta)
def F_5takesYear (c : Int32) (un : Nat → Int32) (en : Int32) (sta : Int32) : Int32 := if (sta.toNatClampNeg) = 6 then (wi (c - (nI (48))) (nI (1)) (nI (2))) else if (sta.toNatClampNeg) = 7 then if (un (en.toNatClampNeg)) = (nI (1)) then (wi (c - (nI (48))) (nI (8)) (nI (9))) else (wi (c - (nI (48))) (nI (0)) (nI (1))) else if (sta.toNatClampNeg) = 8 then (wi (c - (nI (48))) (nI (0)) (nI (9))) else (wi (c - (nI (48))) (nI (0)) (nI (9)))
theorem F_5takesYear_01 (c : Int32) (un : Nat → Int32) (en : Int32) (sta : Int32) : F_5takesYear c un en sta = nI 0 ∨ F_5takesYear c un en sta = nI 1 := by
  unfold F_5takesYear
  (repeat' split) <;> first | exact Or.inl rfl | exact Or.inr rfl | exact wi01 _ _ _
def F_5takesYear_un (c : Int32) (un : Nat → Int32) (en : Int32) (sta : Int32) : Nat → Int32 := if (sta.toNatClampNeg) = 6 then (upd un (en.toNatClampNeg) (c - (nI (48)))) else if (sta.toNatClampNeg) = 7 then if (un (en.toNatClampNeg)) = (nI (1)) then (upd un (en.toNatClampNeg) (((nI (10)) * (un (en.toNatClampNeg))) + (c - (nI (48))))) else (upd un (en.toNatClampNeg) (((nI (10)) * (un (en.toNatClampNeg))) + (c - (nI (48))))) else if (sta.toNatClampNeg) = 8 then (upd un (en.toNatClampNeg) (((nI (10)) * (un (en.toNatClampNeg))) + (c - (nI (48))))) else (upd un (en.toNatClampNeg) (((nI (10)) * (un (en.toNatClampNeg))) + (c - (nI (48)))))
def F_5takesYear_sta (c : Int32) (un : Nat → Int32) (en : Int32) (sta : Int32) : Int32 := if (sta.toNatClampNeg) = 6 then (F_5goesOn_sta (wi (c - (nI (48))) (nI (1)) (nI (2))) (nI (7)) sta) else if (sta.toNatClampNeg) = 7 then if (un (en.toNatClampNeg)) = (nI (1)) then (F_5goesOn_sta (wi (c - (nI (48))) (nI (8)) (nI (9))) (nI (8)) sta) else (F_5goesOn_sta (wi (c - (nI (48))) (nI (0)) (nI (1))) (nI (8)) sta) else if (sta.toNatClampNeg) = 8 then (F_5goesOn_sta (wi (c - (nI (48))) (nI (0)) (nI (9))) (nI (9)) sta) else (F_5goesOn_sta (wi (c - (nI (48))) (nI (0)) (nI (9))) (nI (10)) sta)
end
section
theorem F_5goesOn_N {b nx sta : Int32} (h1 : isN nx) (h2 : isN sta) (h3 : nx.toNatClampNeg ≤ 10) (h4 : sta.toNatClampNeg ≤ 10) : isN (F_5goesOn_sta b nx sta) ∧ (F_5goesOn_sta b nx sta).toNatClampNeg ≤ 10 := by
  unfold F_5goesOn_sta
  split
  · exact ⟨h2, h4⟩
  · exact ⟨h1, h3⟩
def F_5takes (c : Int32) (fr : Nat → Int32) (to : Nat → Int32) (un : Nat → Int32) (en : Int32) (sta : Int32) : Int32 := if 3 ≤ (sta.toNatClampNeg) then if 6 ≤ (sta.toNatClampNeg) then if 10 ≤ (sta.toNatClampNeg) then if c = (nI (44)) then (nI (1)) else (nI (0)) else (F_5takesYear c un en sta) else (F_5takesSecond c fr to en sta) else (F_5takesFirst c fr en sta)
theorem F_5takes_01 (c : Int32) (fr : Nat → Int32) (to : Nat → Int32) (un : Nat → Int32) (en : Int32) (sta : Int32) : F_5takes c fr to un en sta = nI 0 ∨ F_5takes c fr to un en sta = nI 1 := by
  unfold F_5takes
  (repeat' split) <;> first | exact Or.inl rfl | exact Or.inr rfl | exact wi01 _ _ _ | apply F_5takesFirst_01 | apply F_5takesSecond_01 | apply F_5takesYear_01
def F_5takes_fr (c : Int32) (fr : Nat → Int32) (en : Int32) (sta : Int32) : Nat → Int32 := if 3 ≤ (sta.toNatClampNeg) then if 6 ≤ (sta.toNatClampNeg) then if 10 ≤ (sta.toNatClampNeg) then if c = (nI (44)) then fr else fr else fr else fr else (F_5takesFirst_fr c fr en sta)
def F_5takes_to (c : Int32) (fr : Nat → Int32) (to : Nat → Int32) (en : Int32) (sta : Int32) : Nat → Int32 := if 3 ≤ (sta.toNatClampNeg) then if 6 ≤ (sta.toNatClampNeg) then if 10 ≤ (sta.toNatClampNeg) then if c = (nI (44)) then to else to else to else (F_5takesSecond_to c fr to en sta) else (F_5takesFirst_to c fr to en sta)
def F_5takes_un (c : Int32) (un : Nat → Int32) (en : Int32) (sta : Int32) : Nat → Int32 := if 3 ≤ (sta.toNatClampNeg) then if 6 ≤ (sta.toNatClampNeg) then if 10 ≤ (sta.toNatClampNeg) then if c = (nI (44)) then un else un else (F_5takesYear_un c un en sta) else un else un
def F_5takes_en (c : Int32) (en : Int32) (sta : Int32) : Int32 := if 3 ≤ (sta.toNatClampNeg) then if 6 ≤ (sta.toNatClampNeg) then if 10 ≤ (sta.toNatClampNeg) then if c = (nI (44)) then ((nI ((en.toNatClampNeg))) + (nI (1))) else ((nI ((en.toNatClampNeg))) + (nI (0))) else en else en else en
def F_5takes_sta (c : Int32) (fr : Nat → Int32) (to : Nat → Int32) (un : Nat → Int32) (en : Int32) (sta : Int32) : Int32 := if 3 ≤ (sta.toNatClampNeg) then if 6 ≤ (sta.toNatClampNeg) then if 10 ≤ (sta.toNatClampNeg) then if c = (nI (44)) then (F_5goesOn_sta (nI (1)) (nI (0)) sta) else (F_5goesOn_sta (nI (0)) (nI (0)) sta) else (F_5takesYear_sta c un en sta) else (F_5takesSecond_sta c fr to en sta) else (F_5takesFirst_sta c fr en sta)
end
section
/-- the least number of characters of a part that ends in this state -/
def mnS (y : Nat) : Nat := if y < 3 then y else if y < 6 then y - 1 else y - 4
theorem go_inv {b sta : Int32} {k : Nat} (hk : k ≤ 10) (h1 : isN sta) (h2 : sta.toNatClampNeg ≤ 10) (hm : mnS k ≤ mnS sta.toNatClampNeg + 1) : isN (F_5goesOn_sta b (nI k) sta) ∧ (F_5goesOn_sta b (nI k) sta).toNatClampNeg ≤ 10 ∧ mnS (F_5goesOn_sta b (nI k) sta).toNatClampNeg ≤ mnS sta.toNatClampNeg + 1 := by
  unfold F_5goesOn_sta
  split
  · exact ⟨h1, h2, by omega⟩
  · have e : (nI k).toNatClampNeg = k := nI_clamp (by omega)
    refine ⟨by unfold isN; rw [e], by rw [e]; exact hk, by rw [e]; exact hm⟩
theorem first_inv {c : Int32} {fr : Nat → Int32} {en sta : Int32} (h1 : isN sta) (h2 : sta.toNatClampNeg < 3) : isN (F_5takesFirst_sta c fr en sta) ∧ (F_5takesFirst_sta c fr en sta).toNatClampNeg ≤ 10 ∧ mnS (F_5takesFirst_sta c fr en sta).toNatClampNeg ≤ mnS sta.toNatClampNeg + 1 := by
  unfold F_5takesFirst_sta
  (repeat' split) <;> refine go_inv (by omega) h1 (by omega) ?_ <;> (simp only [mnS]; (repeat' split) <;> omega)
theorem second_inv {c : Int32} {fr to : Nat → Int32} {en sta : Int32} (h1 : isN sta) (h3 : 3 ≤ sta.toNatClampNeg) (h2 : sta.toNatClampNeg < 6) : isN (F_5takesSecond_sta c fr to en sta) ∧ (F_5takesSecond_sta c fr to en sta).toNatClampNeg ≤ 10 ∧ mnS (F_5takesSecond_sta c fr to en sta).toNatClampNeg ≤ mnS sta.toNatClampNeg + 1 := by
  unfold F_5takesSecond_sta
  (repeat' split) <;> refine go_inv (by omega) h1 (by omega) ?_ <;> (simp only [mnS]; (repeat' split) <;> omega)
theorem year_inv {c : Int32} {un : Nat → Int32} {en sta : Int32} (h1 : isN sta) (h3 : 6 ≤ sta.toNatClampNeg) (h2 : sta.toNatClampNeg < 10) : isN (F_5takesYear_sta c un en sta) ∧ (F_5takesYear_sta c un en sta).toNatClampNeg ≤ 10 ∧ mnS (F_5takesYear_sta c un en sta).toNatClampNeg ≤ mnS sta.toNatClampNeg + 1 := by
  unfold F_5takesYear_sta
  (repeat' split) <;> refine go_inv (by omega) h1 (by omega) ?_ <;> (simp only [mnS]; (repeat' split) <;> omega)
/-- what the reader's state keeps, j characters read -/
def PI (j : Nat) (sta en : Int32) : Prop := isN sta ∧ sta.toNatClampNeg ≤ 10 ∧ isN en ∧ 7 * en.toNatClampNeg + mnS sta.toNatClampNeg ≤ j
theorem takes_inv {c : Int32} {fr to un : Nat → Int32} {en sta : Int32} {j : Nat} (hj : j ≤ 1000) (h : PI j sta en) : PI (j + 1) (F_5takes_sta c fr to un en sta) (F_5takes_en c en sta) := by
  obtain ⟨h1, h2, h3, h4⟩ := h
  unfold F_5takes_sta F_5takes_en
  split
  · split
    · split
      · split
        · -- a comma
          have e0 : (nI 0).toNatClampNeg = 0 := nI_clamp (by omega)
          have e1 : F_5goesOn_sta (nI 1) (nI 0) sta = nI 0 := by unfold F_5goesOn_sta; rw [if_neg (by decide)]
          rw [e1]
          obtain ⟨e, he⟩ : ∃ e, en.toNatClampNeg = e := ⟨_, rfl⟩
          rw [he] at h4
          simp only [nI_add, he]
          have e2 : (nI (e + 1)).toNatClampNeg = e + 1 := nI_clamp (by omega)
          refine ⟨by unfold isN; rw [e0], by rw [e0]; omega, by unfold isN; rw [e2], ?_⟩
          rw [e0, e2]
          have : mnS sta.toNatClampNeg = 6 := by rw [show sta.toNatClampNeg = 10 by omega]; rfl
          have : mnS 0 = 0 := rfl
          omega
        · have e1 : F_5goesOn_sta (nI 0) (nI 0) sta = sta := by unfold F_5goesOn_sta; rw [if_pos (by decide)]
          rw [e1]
          have e2 : nI en.toNatClampNeg + nI 0 = en := by rw [nI_add, Nat.add_zero]; exact h3.symm
          rw [e2]
          exact ⟨h1, h2, h3, by omega⟩
      · obtain ⟨a, b, c'⟩ := year_inv (c := c) (un := un) (en := en) h1 (by omega) (by omega)
        exact ⟨a, b, h3, by omega⟩
    · obtain ⟨a, b, c'⟩ := second_inv (c := c) (fr := fr) (to := to) (en := en) h1 (by omega) (by omega)
      exact ⟨a, b, h3, by omega⟩
  · obtain ⟨a, b, c'⟩ := first_inv (c := c) (fr := fr) (en := en) h1 (by omega)
    exact ⟨a, b, h3, by omega⟩
def W_5read_12 (te : Nat → Int32) : Nat → Nat → (Nat → Int32) → (Nat → Int32) → (Nat → Int32) → (Int32) → (Int32) → (Int32) × (Nat → Int32) × (Nat → Int32) × (Nat → Int32) × (Int32) × (Int32)
  | 0, j12, y12_fr, y12_to, y12_un, y12_en, y12_sta => (nI (j12), y12_fr, y12_to, y12_un, y12_en, y12_sta)
  | f12 + 1, j12, y12_fr, y12_to, y12_un, y12_en, y12_sta => if (F_5takes (te j12) y12_fr y12_to y12_un y12_en y12_sta) = 0 then (nI (j12), F_5takes_fr (te j12) y12_fr y12_en y12_sta, F_5takes_to (te j12) y12_fr y12_to y12_en y12_sta, F_5takes_un (te j12) y12_un y12_en y12_sta, F_5takes_en (te j12) y12_en y12_sta, F_5takes_sta (te j12) y12_fr y12_to y12_un y12_en y12_sta) else W_5read_12 te f12 (j12 + 1) (F_5takes_fr (te j12) y12_fr y12_en y12_sta) (F_5takes_to (te j12) y12_fr y12_to y12_en y12_sta) (F_5takes_un (te j12) y12_un y12_en y12_sta) (F_5takes_en (te j12) y12_en y12_sta) (F_5takes_sta (te j12) y12_fr y12_to y12_un y12_en y12_sta)
def F_5read (q : Nat) (te : Nat → Int32) (fr : Nat → Int32) (to : Nat → Int32) (un : Nat → Int32) : Int32 := ((W_5read_12 te q 0 fr to un (nI (0)) (nI (0))).1)
def F_5read_fr (q : Nat) (te : Nat → Int32) (fr : Nat → Int32) (to : Nat → Int32) (un : Nat → Int32) : Nat → Int32 := ((W_5read_12 te q 0 fr to un (nI (0)) (nI (0))).2.1)
def F_5read_to (q : Nat) (te : Nat → Int32) (fr : Nat → Int32) (to : Nat → Int32) (un : Nat → Int32) : Nat → Int32 := ((W_5read_12 te q 0 fr to un (nI (0)) (nI (0))).2.2.1)
def F_5read_un (q : Nat) (te : Nat → Int32) (fr : Nat → Int32) (to : Nat → Int32) (un : Nat → Int32) : Nat → Int32 := ((W_5read_12 te q 0 fr to un (nI (0)) (nI (0))).2.2.2.1)
def F_5read_en (q : Nat) (te : Nat → Int32) (fr : Nat → Int32) (to : Nat → Int32) (un : Nat → Int32) : Int32 := ((W_5read_12 te q 0 fr to un (nI (0)) (nI (0))).2.2.2.2.1)
def F_5read_sta (q : Nat) (te : Nat → Int32) (fr : Nat → Int32) (to : Nat → Int32) (un : Nat → Int32) : Int32 := ((W_5read_12 te q 0 fr to un (nI (0)) (nI (0))).2.2.2.2.2)
def F_5firstError (q : Nat) (te : Nat → Int32) (fr : Nat → Int32) (to : Nat → Int32) (un : Nat → Int32) : Int32 := (F_5read q te fr to un)
def F_5firstError_fr (q : Nat) (te : Nat → Int32) (fr : Nat → Int32) (to : Nat → Int32) (un : Nat → Int32) : Nat → Int32 := (F_5read_fr q te fr to un)
def F_5firstError_to (q : Nat) (te : Nat → Int32) (fr : Nat → Int32) (to : Nat → Int32) (un : Nat → Int32) : Nat → Int32 := (F_5read_to q te fr to un)
def F_5firstError_un (q : Nat) (te : Nat → Int32) (fr : Nat → Int32) (to : Nat → Int32) (un : Nat → Int32) : Nat → Int32 := (F_5read_un q te fr to un)
def F_5firstError_en (q : Nat) (te : Nat → Int32) (fr : Nat → Int32) (to : Nat → Int32) (un : Nat → Int32) : Int32 := (F_5read_en q te fr to un)
def F_5firstError_sta (q : Nat) (te : Nat → Int32) (fr : Nat → Int32) (to : Nat → Int32) (un : Nat → Int32) : Int32 := (F_5read_sta q te fr to un)
def F_5firstError_th : Int32 := (nI (0))
end
section
theorem wiN_t {k a b : Nat} (h1 : a ≤ k) (h2 : k ≤ b) (hb : b < 2147483648) : wi (nI k) (nI a) (nI b) = nI 1 := by
  unfold wi
  rw [if_pos ⟨nI_le h1 (by omega), nI_le h2 hb⟩]
  rfl
theorem bi_0 {p : Prop} [Decidable p] (h : bi p = 0) : ¬ p := by
  intro hp
  unfold bi at h
  rw [if_pos hp] at h
  exact absurd h (by decide)
theorem rsZ_ne {z : Nat → Int32} {nv ne v c r : Nat} (h : rsZ z nv ne v c r = 0) : ¬ ne = 60 := by
  intro h1
  unfold rsZ at h
  rw [if_pos h1] at h
  (repeat' split at h) <;> exact absurd h (by decide)
def F_5addVolume (b0 : Int32) (b1 : Int32) (b2 : Int32) (b3 : Int32) (nv : Nat) : Int32 := if (wi b0 (nI (0)) (nI (19))) = 0 then (nI (0)) else if (wi b1 (nI (1)) (nI (3))) = 0 then (nI (0)) else if (wi b2 (nI (1)) (nI (40))) = 0 then (nI (0)) else if (wi b3 (nI (0)) (nI (3))) = 0 then (nI (0)) else if nv = 12 then (nI (0)) else ((nI ((nv + 1))) - (nI (1)))
def F_5addVolume_z (b0 : Int32) (b1 : Int32) (b2 : Int32) (b3 : Int32) (nv : Nat) (z : Nat → Int32) : Nat → Int32 := if (wi b0 (nI (0)) (nI (19))) = 0 then z else if (wi b1 (nI (1)) (nI (3))) = 0 then z else if (wi b2 (nI (1)) (nI (40))) = 0 then z else if (wi b3 (nI (0)) (nI (3))) = 0 then z else if nv = 12 then z else (upd (upd (upd (upd (upd z ((11 + (7 * nv)) + 0) b0) ((11 + (7 * nv)) + 1) b1) ((11 + (7 * nv)) + 2) b2) ((11 + (7 * nv)) + 3) b3) 0 (nI ((nv + 1))))
def F_5addVolume_ro (b0 : Int32) (b1 : Int32) (b2 : Int32) (b3 : Int32) (nv : Nat) (s : Nat) (z : Nat → Int32) (ro : Nat → Int32) : Nat → Int32 := if (wi b0 (nI (0)) (nI (19))) = 0 then ro else if (wi b1 (nI (1)) (nI (3))) = 0 then ro else if (wi b2 (nI (1)) (nI (40))) = 0 then ro else if (wi b3 (nI (0)) (nI (3))) = 0 then ro else if nv = 12 then ro else (svR z ro s)
def F_5addVolume_sv (b0 : Int32) (b1 : Int32) (b2 : Int32) (b3 : Int32) (nv : Nat) (s : Nat) (sv : Int32) : Int32 := if (wi b0 (nI (0)) (nI (19))) = 0 then sv else if (wi b1 (nI (1)) (nI (3))) = 0 then sv else if (wi b2 (nI (1)) (nI (40))) = 0 then sv else if (wi b3 (nI (0)) (nI (3))) = 0 then sv else if nv = 12 then sv else (nI (svN s))
def F_5addVolume_th (b0 : Int32) (b1 : Int32) (b2 : Int32) (b3 : Int32) (nv : Nat) : Int32 := if (wi b0 (nI (0)) (nI (19))) = 0 then (nI (1)) else if (wi b1 (nI (1)) (nI (3))) = 0 then (nI (1)) else if (wi b2 (nI (1)) (nI (40))) = 0 then (nI (1)) else if (wi b3 (nI (0)) (nI (3))) = 0 then (nI (1)) else if nv = 12 then (nI (2)) else (nI (0))
def F_5addCradle (b0 : Int32) (b1 : Int32) (nc : Nat) : Int32 := if (wi b0 (nI (1)) (nI (3))) = 0 then (nI (0)) else if (wi b1 (nI (0)) (nI (2))) = 0 then (nI (0)) else if nc = 4 then (nI (0)) else ((nI ((nc + 1))) - (nI (1)))
def F_5addCradle_z (b0 : Int32) (b1 : Int32) (nc : Nat) (z : Nat → Int32) : Nat → Int32 := if (wi b0 (nI (1)) (nI (3))) = 0 then z else if (wi b1 (nI (0)) (nI (2))) = 0 then z else if nc = 4 then z else (upd (upd (upd z ((95 + (4 * nc)) + 0) b0) ((95 + (4 * nc)) + 1) b1) 1 (nI ((nc + 1))))
def F_5addCradle_ro (b0 : Int32) (b1 : Int32) (nc : Nat) (s : Nat) (z : Nat → Int32) (ro : Nat → Int32) : Nat → Int32 := if (wi b0 (nI (1)) (nI (3))) = 0 then ro else if (wi b1 (nI (0)) (nI (2))) = 0 then ro else if nc = 4 then ro else (svR z ro s)
def F_5addCradle_sv (b0 : Int32) (b1 : Int32) (nc : Nat) (s : Nat) (sv : Int32) : Int32 := if (wi b0 (nI (1)) (nI (3))) = 0 then sv else if (wi b1 (nI (0)) (nI (2))) = 0 then sv else if nc = 4 then sv else (nI (svN s))
def F_5addCradle_th (b0 : Int32) (b1 : Int32) (nc : Nat) : Int32 := if (wi b0 (nI (1)) (nI (3))) = 0 then (nI (1)) else if (wi b1 (nI (0)) (nI (2))) = 0 then (nI (1)) else if nc = 4 then (nI (2)) else (nI (0))
def F_5addCarrier (nr : Nat) : Int32 := if nr = 3 then (nI (0)) else ((nI ((nr + 1))) - (nI (1)))
def F_5addCarrier_z (nr : Nat) (z : Nat → Int32) : Nat → Int32 := if nr = 3 then z else (upd z 2 (nI ((nr + 1))))
def F_5addCarrier_ro (nr : Nat) (s : Nat) (z : Nat → Int32) (ro : Nat → Int32) : Nat → Int32 := if nr = 3 then ro else (svR z ro s)
def F_5addCarrier_sv (nr : Nat) (s : Nat) (sv : Int32) : Int32 := if nr = 3 then sv else (nI (svN s))
def F_5addCarrier_th (nr : Nat) : Int32 := if nr = 3 then (nI (1)) else (nI (0))
def F_5setA : Int32 := (nI (0))
theorem F_5setA_01 : F_5setA  = nI 0 ∨ F_5setA  = nI 1 := by
  unfold F_5setA
  (repeat' split) <;> first | exact Or.inl rfl | exact Or.inr rfl | exact wi01 _ _ _
def F_5setA_th : Int32 := (nI (1))
def F_5set (k : Nat) (v : Int32) (z : Nat → Int32) : Int32 := if k = 0 then if (wi v (nI (1)) (nI (9))) = 0 then (nI (0)) else (z (7 + k)) else if k = 1 then if (wi v (nI (0)) (nI (9))) = 0 then (nI (0)) else (z (7 + k)) else if k = 2 then if (wi v (nI (1)) (nI (200))) = 0 then (nI (0)) else (z (7 + k)) else if (wi v (nI (0)) (nI (5))) = 0 then (nI (0)) else (z (7 + k))
def F_5set_z (k : Nat) (v : Int32) (z : Nat → Int32) : Nat → Int32 := if k = 0 then if (wi v (nI (1)) (nI (9))) = 0 then z else (upd z (7 + k) v) else if k = 1 then if (wi v (nI (0)) (nI (9))) = 0 then z else (upd z (7 + k) v) else if k = 2 then if (wi v (nI (1)) (nI (200))) = 0 then z else (upd z (7 + k) v) else if (wi v (nI (0)) (nI (5))) = 0 then z else (upd z (7 + k) v)
def F_5set_ro (k : Nat) (v : Int32) (s : Nat) (z : Nat → Int32) (ro : Nat → Int32) : Nat → Int32 := if k = 0 then if (wi v (nI (1)) (nI (9))) = 0 then ro else (svR z ro s) else if k = 1 then if (wi v (nI (0)) (nI (9))) = 0 then ro else (svR z ro s) else if k = 2 then if (wi v (nI (1)) (nI (200))) = 0 then ro else (svR z ro s) else if (wi v (nI (0)) (nI (5))) = 0 then ro else (svR z ro s)
def F_5set_sv (k : Nat) (v : Int32) (s : Nat) (sv : Int32) : Int32 := if k = 0 then if (wi v (nI (1)) (nI (9))) = 0 then sv else (nI (svN s)) else if k = 1 then if (wi v (nI (0)) (nI (9))) = 0 then sv else (nI (svN s)) else if k = 2 then if (wi v (nI (1)) (nI (200))) = 0 then sv else (nI (svN s)) else if (wi v (nI (0)) (nI (5))) = 0 then sv else (nI (svN s))
def F_5set_th (k : Nat) (v : Int32) : Int32 := if k = 0 then if (wi v (nI (1)) (nI (9))) = 0 then (nI (2)) else (nI (0)) else if k = 1 then if (wi v (nI (0)) (nI (9))) = 0 then (nI (2)) else (nI (0)) else if k = 2 then if (wi v (nI (1)) (nI (200))) = 0 then (nI (2)) else (nI (0)) else if (wi v (nI (0)) (nI (5))) = 0 then (nI (2)) else (nI (0))
def F_5setYear (y : Int32) (z : Nat → Int32) : Int32 := if (wi y (nI (1800)) (nI (2199))) = 0 then (nI (0)) else (z 4)
def F_5setYear_z (y : Int32) (z : Nat → Int32) : Nat → Int32 := if (wi y (nI (1800)) (nI (2199))) = 0 then z else (upd z 4 y)
def F_5setYear_ro (y : Int32) (s : Nat) (z : Nat → Int32) (ro : Nat → Int32) : Nat → Int32 := if (wi y (nI (1800)) (nI (2199))) = 0 then ro else (svR z ro s)
def F_5setYear_sv (y : Int32) (s : Nat) (sv : Int32) : Int32 := if (wi y (nI (1800)) (nI (2199))) = 0 then sv else (nI (svN s))
def F_5setYear_th (y : Int32) : Int32 := if (wi y (nI (1800)) (nI (2199))) = 0 then (nI (1)) else (nI (0))
def F_5bringA : Int32 := (nI (0))
theorem F_5bringA_01 : F_5bringA  = nI 0 ∨ F_5bringA  = nI 1 := by
  unfold F_5bringA
  (repeat' split) <;> first | exact Or.inl rfl | exact Or.inr rfl | exact wi01 _ _ _
def F_5bringA_th : Int32 := (nI (1))
def F_5bringB : Int32 := (nI (0))
theorem F_5bringB_01 : F_5bringB  = nI 0 ∨ F_5bringB  = nI 1 := by
  unfold F_5bringB
  (repeat' split) <;> first | exact Or.inl rfl | exact Or.inr rfl | exact wi01 _ _ _
def F_5bringB_th : Int32 := (nI (1))
def F_5bringC : Int32 := (nI (0))
theorem F_5bringC_01 : F_5bringC  = nI 0 ∨ F_5bringC  = nI 1 := by
  unfold F_5bringC
  (repeat' split) <;> first | exact Or.inl rfl | exact Or.inr rfl | exact wi01 _ _ _
def F_5bringC_th : Int32 := (nI (1))
def F_5bring (v : Nat) (c : Nat) (r : Nat) (nv : Nat) (ne : Nat) (z : Nat → Int32) : Int32 := if (rsZ z nv ne v c r) = 0 then (F_5goesA v r z) else (nI (0))
def F_5bring_z (v : Nat) (c : Nat) (r : Nat) (nv : Nat) (ne : Nat) (z : Nat → Int32) : Nat → Int32 := if (rsZ z nv ne v c r) = 0 then (F_5goesA_z v c r ne z) else z
def F_5bring_ro (v : Nat) (c : Nat) (r : Nat) (nv : Nat) (ne : Nat) (s : Nat) (z : Nat → Int32) (ro : Nat → Int32) : Nat → Int32 := if (rsZ z nv ne v c r) = 0 then (svR z ro s) else ro
def F_5bring_sv (v : Nat) (c : Nat) (r : Nat) (nv : Nat) (ne : Nat) (s : Nat) (z : Nat → Int32) (sv : Int32) : Int32 := if (rsZ z nv ne v c r) = 0 then (nI (svN s)) else sv
def F_5bring_th (v : Nat) (c : Nat) (r : Nat) (nv : Nat) (ne : Nat) (z : Nat → Int32) : Int32 := if (rsZ z nv ne v c r) = 0 then (nI (0)) else (nI (2))
def F_5whyNotA : Int32 := (nI (0))
theorem F_5whyNotA_01 : F_5whyNotA  = nI 0 ∨ F_5whyNotA  = nI 1 := by
  unfold F_5whyNotA
  (repeat' split) <;> first | exact Or.inl rfl | exact Or.inr rfl | exact wi01 _ _ _
def F_5whyNotA_th : Int32 := (nI (1))
def F_5whyNotB : Int32 := (nI (0))
theorem F_5whyNotB_01 : F_5whyNotB  = nI 0 ∨ F_5whyNotB  = nI 1 := by
  unfold F_5whyNotB
  (repeat' split) <;> first | exact Or.inl rfl | exact Or.inr rfl | exact wi01 _ _ _
def F_5whyNotB_th : Int32 := (nI (1))
def F_5whyNotC : Int32 := (nI (0))
theorem F_5whyNotC_01 : F_5whyNotC  = nI 0 ∨ F_5whyNotC  = nI 1 := by
  unfold F_5whyNotC
  (repeat' split) <;> first | exact Or.inl rfl | exact Or.inr rfl | exact wi01 _ _ _
def F_5whyNotC_th : Int32 := (nI (1))
def F_5whyNot (v : Nat) (c : Nat) (r : Nat) (nv : Nat) (ne : Nat) (z : Nat → Int32) : Int32 := (rsZ z nv ne v c r)
def F_5whyNot_th : Int32 := (nI (0))
def F_5takeBackA : Int32 := (nI (0))
theorem F_5takeBackA_01 : F_5takeBackA  = nI 0 ∨ F_5takeBackA  = nI 1 := by
  unfold F_5takeBackA
  (repeat' split) <;> first | exact Or.inl rfl | exact Or.inr rfl | exact wi01 _ _ _
def F_5takeBackA_th : Int32 := (nI (1))
def F_5takeBackB : Int32 := (nI (0))
theorem F_5takeBackB_01 : F_5takeBackB  = nI 0 ∨ F_5takeBackB  = nI 1 := by
  unfold F_5takeBackB
  (repeat' split) <;> first | exact Or.inl rfl | exact Or.inr rfl | exact wi01 _ _ _
def F_5takeBackB_th : Int32 := (nI (1))
def F_5takeBackC : Int32 := (nI (0))
theorem F_5takeBackC_01 : F_5takeBackC  = nI 0 ∨ F_5takeBackC  = nI 1 := by
  unfold F_5takeBackC
  (repeat' split) <;> first | exact Or.inl rfl | exact Or.inr rfl | exact wi01 _ _ _
def F_5takeBackC_th : Int32 := (nI (2))
def F_5takeBack (v : Nat) (r : Nat) (ne : Nat) (z : Nat → Int32) : Int32 := if 0 < (z (111 + 4 * r + 1)) then (nI (0)) else if (bi (ne = 60)) = 0 then (F_5goesB v r z) else (nI (0))
def F_5takeBack_z (v : Nat) (r : Nat) (ne : Nat) (w : Nat) (z : Nat → Int32) : Nat → Int32 := if 0 < (z (111 + 4 * r + 1)) then z else if (bi (ne = 60)) = 0 then (F_5goesB_z v r ne w z) else z
def F_5takeBack_ro (r : Nat) (ne : Nat) (s : Nat) (z : Nat → Int32) (ro : Nat → Int32) : Nat → Int32 := if 0 < (z (111 + 4 * r + 1)) then ro else if (bi (ne = 60)) = 0 then (svR z ro s) else ro
def F_5takeBack_sv (r : Nat) (ne : Nat) (s : Nat) (z : Nat → Int32) (sv : Int32) : Int32 := if 0 < (z (111 + 4 * r + 1)) then sv else if (bi (ne = 60)) = 0 then (nI (svN s)) else sv
def F_5takeBack_th (r : Nat) (ne : Nat) (z : Nat → Int32) : Int32 := if 0 < (z (111 + 4 * r + 1)) then (nI (2)) else if (bi (ne = 60)) = 0 then (nI (0)) else (nI (2))
end
section
def F_5passA : Int32 := (nI (0))
theorem F_5passA_01 : F_5passA  = nI 0 ∨ F_5passA  = nI 1 := by
  unfold F_5passA
  (repeat' split) <;> first | exact Or.inl rfl | exact Or.inr rfl | exact wi01 _ _ _
def F_5passA_th : Int32 := (nI (1))
def B_5pass_50 (nv : Nat) (nc : Nat) (nr : Nat) (j50 : Nat) (x50_2 : Int32) (y50_z : Nat → Int32) : (Int32) × (Nat → Int32) := (x50_2 + (F_5minute nv nc y50_z), F_5minute_z nv nc nr y50_z)
def L_5pass_50 (nv : Nat) (nc : Nat) (nr : Nat) (z : Nat → Int32) : Nat → (Int32) × (Nat → Int32)
  | 0 => (nI (0), z)
  | j + 1 => B_5pass_50 nv nc nr j ((L_5pass_50 nv nc nr z  j).1) ((L_5pass_50 nv nc nr z  j).2)
theorem ps_mn (nv nc nr : Nat) (z : Nat → Int32) : ∀ j : Nat, (L_5pass_50 nv nc nr z j).2 = mnN nv nc nr z j
  | 0 => rfl
  | j + 1 => by
    show F_5minute_z nv nc nr (L_5pass_50 nv nc nr z j).2 = _
    rw [ps_mn nv nc nr z j]
    rfl
def F_5pass (m : Nat) (nv : Nat) (nc : Nat) (nr : Nat) (z : Nat → Int32) : Int32 := if ((z 3) + (nI (m))) ≤ (nI (20000)) then ((L_5pass_50 nv nc nr z m).1) else (nI (0))
def F_5pass_z (m : Nat) (nv : Nat) (nc : Nat) (nr : Nat) (z : Nat → Int32) : Nat → Int32 := if ((z 3) + (nI (m))) ≤ (nI (20000)) then ((L_5pass_50 nv nc nr z m).2) else z
def F_5pass_ro (m : Nat) (s : Nat) (z : Nat → Int32) (ro : Nat → Int32) : Nat → Int32 := if ((z 3) + (nI (m))) ≤ (nI (20000)) then (svR z ro s) else ro
def F_5pass_sv (m : Nat) (s : Nat) (z : Nat → Int32) (sv : Int32) : Int32 := if ((z 3) + (nI (m))) ≤ (nI (20000)) then (nI (svN s)) else sv
def F_5pass_th (m : Nat) (z : Nat → Int32) : Int32 := if ((z 3) + (nI (m))) ≤ (nI (20000)) then (nI (0)) else (nI (2))
def F_5rejectA : Int32 := (nI (0))
theorem F_5rejectA_01 : F_5rejectA  = nI 0 ∨ F_5rejectA  = nI 1 := by
  unfold F_5rejectA
  (repeat' split) <;> first | exact Or.inl rfl | exact Or.inr rfl | exact wi01 _ _ _
def F_5rejectA_th : Int32 := (nI (1))
def F_5rejectB : Int32 := (nI (0))
theorem F_5rejectB_01 : F_5rejectB  = nI 0 ∨ F_5rejectB  = nI 1 := by
  unfold F_5rejectB
  (repeat' split) <;> first | exact Or.inl rfl | exact Or.inr rfl | exact wi01 _ _ _
def F_5rejectB_th : Int32 := (nI (1))
def F_5reject (v : Nat) (k : Nat) (z : Nat → Int32) : Int32 := if (z (423 + 3 * (40 * v + k) + 0)) = (nI (1)) then (L_5leavesWith_5 v (nI (2)) (upd (upd z (423 + (3 * ((40 * v) + k))) (nI (2))) 6 ((z 6) + (nI (1)))) (lv (upd (upd z (423 + (3 * ((40 * v) + k))) (nI (2))) 6 ((z 6) + (nI (1)))) v)) else (nI (0))
def F_5reject_z (v : Nat) (k : Nat) (z : Nat → Int32) : Nat → Int32 := if (z (423 + 3 * (40 * v + k) + 0)) = (nI (1)) then (upd (upd z (423 + (3 * ((40 * v) + k))) (nI (2))) 6 ((z 6) + (nI (1)))) else z
def F_5reject_ro (v : Nat) (k : Nat) (s : Nat) (z : Nat → Int32) (ro : Nat → Int32) : Nat → Int32 := if (z (423 + 3 * (40 * v + k) + 0)) = (nI (1)) then (svR z ro s) else ro
def F_5reject_sv (v : Nat) (k : Nat) (s : Nat) (z : Nat → Int32) (sv : Int32) : Int32 := if (z (423 + 3 * (40 * v + k) + 0)) = (nI (1)) then (nI (svN s)) else sv
def F_5reject_th (v : Nat) (k : Nat) (z : Nat → Int32) : Int32 := if (z (423 + 3 * (40 * v + k) + 0)) = (nI (1)) then (nI (0)) else (nI (2))
def F_5leafA : Int32 := (nI (0))
theorem F_5leafA_01 : F_5leafA  = nI 0 ∨ F_5leafA  = nI 1 := by
  unfold F_5leafA
  (repeat' split) <;> first | exact Or.inl rfl | exact Or.inr rfl | exact wi01 _ _ _
def F_5leafA_th : Int32 := (nI (1))
def F_5leafB : Int32 := (nI (0))
theorem F_5leafB_01 : F_5leafB  = nI 0 ∨ F_5leafB  = nI 1 := by
  unfold F_5leafB
  (repeat' split) <;> first | exact Or.inl rfl | exact Or.inr rfl | exact wi01 _ _ _
def F_5leafB_th : Int32 := (nI (1))
def F_5leafC : Int32 := (nI (0))
theorem F_5leafC_01 : F_5leafC  = nI 0 ∨ F_5leafC  = nI 1 := by
  unfold F_5leafC
  (repeat' split) <;> first | exact Or.inl rfl | exact Or.inr rfl | exact wi01 _ _ _
def F_5leafC_th : Int32 := (nI (2))
def F_5leaf (v : Nat) (k : Nat) (w : Nat) (z : Nat → Int32) : Int32 := (F_5leafNow v k w z)
def F_5leaf_th : Int32 := (nI (0))
def F_5append (c : Int32) (q : Nat) : Int32 := if (wi c (nI (33)) (nI (126))) = 0 then (nI (0)) else if q = 60 then (nI (0)) else ((nI (q)) + (nI (1)))
def F_5append_te (c : Int32) (q : Nat) (te : Nat → Int32) : Nat → Int32 := if (wi c (nI (33)) (nI (126))) = 0 then te else if q = 60 then te else (upd te q c)
def F_5append_ln (c : Int32) (q : Nat) (ln : Int32) : Int32 := if (wi c (nI (33)) (nI (126))) = 0 then ln else if q = 60 then ln else ((nI (q)) + (nI (1)))
def F_5append_th (c : Int32) (q : Nat) : Int32 := if (wi c (nI (33)) (nI (126))) = 0 then (nI (1)) else if q = 60 then (nI (2)) else (nI (0))
def F_5clearBuffer (ln : Int32) : Int32 := ln
def F_5clearBuffer_ln : Int32 := (nI (0))
def F_5clearBuffer_th : Int32 := (nI (0))
def B_5undo_30 (s : Nat) (ro : Nat → Int32) (j30 : Nat) (y30_z : Nat → Int32) : (Nat → Int32) := (upd y30_z j30 (ro ((1863 * (s - 1)) + j30)))
def L_5undo_30 (s : Nat) (z : Nat → Int32) (ro : Nat → Int32) : Nat → (Nat → Int32)
  | 0 => z
  | j + 1 => B_5undo_30 s ro j (L_5undo_30 s z ro  j)
def F_5undo (s : Nat) : Int32 := if s = 0 then (nI (0)) else (nI ((s - 1)))
def F_5undo_z (s : Nat) (z : Nat → Int32) (ro : Nat → Int32) : Nat → Int32 := if s = 0 then z else (L_5undo_30 s z ro 1863)
def F_5undo_sv (s : Nat) (sv : Int32) : Int32 := if s = 0 then sv else (nI ((s - 1)))
def F_5undo_th (s : Nat) : Int32 := if s = 0 then (nI (1)) else (nI (0))
end
section
def F_5volumeA : Int32 := (nI (0))
theorem F_5volumeA_01 : F_5volumeA  = nI 0 ∨ F_5volumeA  = nI 1 := by
  unfold F_5volumeA
  (repeat' split) <;> first | exact Or.inl rfl | exact Or.inr rfl | exact wi01 _ _ _
def F_5volumeA_th : Int32 := (nI (1))
def F_5volumeB : Int32 := (nI (0))
theorem F_5volumeB_01 : F_5volumeB  = nI 0 ∨ F_5volumeB  = nI 1 := by
  unfold F_5volumeB
  (repeat' split) <;> first | exact Or.inl rfl | exact Or.inr rfl | exact wi01 _ _ _
def F_5volumeB_th : Int32 := (nI (2))
def F_5volume (v : Nat) (w : Nat) (z : Nat → Int32) : Int32 := (F_5volumeNow v w z)
def F_5volume_th : Int32 := (nI (0))
def F_5cradleA : Int32 := (nI (0))
theorem F_5cradleA_01 : F_5cradleA  = nI 0 ∨ F_5cradleA  = nI 1 := by
  unfold F_5cradleA
  (repeat' split) <;> first | exact Or.inl rfl | exact Or.inr rfl | exact wi01 _ _ _
def F_5cradleA_th : Int32 := (nI (1))
def F_5cradleB : Int32 := (nI (0))
theorem F_5cradleB_01 : F_5cradleB  = nI 0 ∨ F_5cradleB  = nI 1 := by
  unfold F_5cradleB
  (repeat' split) <;> first | exact Or.inl rfl | exact Or.inr rfl | exact wi01 _ _ _
def F_5cradleB_th : Int32 := (nI (2))
def F_5cradle (c : Nat) (w : Nat) (nv : Nat) (z : Nat → Int32) : Int32 := (F_5cradleNow c w nv z)
def F_5cradle_th : Int32 := (nI (0))
def F_5carrierA : Int32 := (nI (0))
theorem F_5carrierA_01 : F_5carrierA  = nI 0 ∨ F_5carrierA  = nI 1 := by
  unfold F_5carrierA
  (repeat' split) <;> first | exact Or.inl rfl | exact Or.inr rfl | exact wi01 _ _ _
def F_5carrierA_th : Int32 := (nI (1))
def F_5carrierB : Int32 := (nI (0))
theorem F_5carrierB_01 : F_5carrierB  = nI 0 ∨ F_5carrierB  = nI 1 := by
  unfold F_5carrierB
  (repeat' split) <;> first | exact Or.inl rfl | exact Or.inr rfl | exact wi01 _ _ _
def F_5carrierB_th : Int32 := (nI (2))
def F_5carrier (r : Nat) (w : Nat) (z : Nat → Int32) : Int32 := (z (111 + 4 * r + w))
def F_5carrier_th : Int32 := (nI (0))
def F_5logA : Int32 := (nI (0))
theorem F_5logA_01 : F_5logA  = nI 0 ∨ F_5logA  = nI 1 := by
  unfold F_5logA
  (repeat' split) <;> first | exact Or.inl rfl | exact Or.inr rfl | exact wi01 _ _ _
def F_5logA_th : Int32 := (nI (1))
def F_5logB : Int32 := (nI (0))
theorem F_5logB_01 : F_5logB  = nI 0 ∨ F_5logB  = nI 1 := by
  unfold F_5logB
  (repeat' split) <;> first | exact Or.inl rfl | exact Or.inr rfl | exact wi01 _ _ _
def F_5logB_th : Int32 := (nI (2))
def F_5log (e : Nat) (w : Nat) (z : Nat → Int32) : Int32 := (z ((123 + (5 * e)) + w))
def F_5log_th : Int32 := (nI (0))
def F_5whereAtA : Int32 := (nI (0))
theorem F_5whereAtA_01 : F_5whereAtA  = nI 0 ∨ F_5whereAtA  = nI 1 := by
  unfold F_5whereAtA
  (repeat' split) <;> first | exact Or.inl rfl | exact Or.inr rfl | exact wi01 _ _ _
def F_5whereAtA_th : Int32 := (nI (1))
def F_5whereAt (v : Nat) (m : Int32) (ne : Nat) (z : Nat → Int32) : Int32 := if (wi m (nI (0)) (z 3)) = 0 then (nI (0)) else (L_5whereNow_5 (nI (v)) m z ne)
def F_5whereAt_th (m : Int32) (z : Nat → Int32) : Int32 := if (wi m (nI (0)) (z 3)) = 0 then (nI (2)) else (nI (0))
def F_5countA : Int32 := (nI (0))
theorem F_5countA_01 : F_5countA  = nI 0 ∨ F_5countA  = nI 1 := by
  unfold F_5countA
  (repeat' split) <;> first | exact Or.inl rfl | exact Or.inr rfl | exact wi01 _ _ _
def F_5countA_th : Int32 := (nI (1))
def F_5count (w : Nat) (nv : Nat) (nc : Nat) (z : Nat → Int32) (sv : Int32) : Int32 := (F_5counted w nv nc z sv)
def F_5count_th : Int32 := (nI (0))
def F_5settingA : Int32 := (nI (0))
theorem F_5settingA_01 : F_5settingA  = nI 0 ∨ F_5settingA  = nI 1 := by
  unfold F_5settingA
  (repeat' split) <;> first | exact Or.inl rfl | exact Or.inr rfl | exact wi01 _ _ _
def F_5settingA_th : Int32 := (nI (1))
def F_5setting (k : Nat) (z : Nat → Int32) : Int32 := (z (7 + k))
def F_5setting_th : Int32 := (nI (0))
def F_5ifPassedA : Int32 := (nI (0))
theorem F_5ifPassedA_01 : F_5ifPassedA  = nI 0 ∨ F_5ifPassedA  = nI 1 := by
  unfold F_5ifPassedA
  (repeat' split) <;> first | exact Or.inl rfl | exact Or.inr rfl | exact wi01 _ _ _
def F_5ifPassedA_th : Int32 := (nI (1))
def F_5ifPassedB : Int32 := (nI (0))
theorem F_5ifPassedB_01 : F_5ifPassedB  = nI 0 ∨ F_5ifPassedB  = nI 1 := by
  unfold F_5ifPassedB
  (repeat' split) <;> first | exact Or.inl rfl | exact Or.inr rfl | exact wi01 _ _ _
def F_5ifPassedB_th : Int32 := (nI (2))
def F_5ifPassedC : Int32 := (nI (0))
theorem F_5ifPassedC_01 : F_5ifPassedC  = nI 0 ∨ F_5ifPassedC  = nI 1 := by
  unfold F_5ifPassedC
  (repeat' split) <;> first | exact Or.inl rfl | exact Or.inr rfl | exact wi01 _ _ _
def F_5ifPassedC_th : Int32 := (nI (2))
def F_5ifPassedD (m : Nat) (c : Nat) (nv : Nat) (nc : Nat) (nr : Nat) (z : Nat → Int32) : Int32 := (F_5passedNow m (nI (c)) nv nc nr z)
def F_5ifPassedD_sa (z : Nat → Int32) (sa : Nat → Int32) : Nat → Int32 := (F_5passedNow_sa z sa)
def F_5ifPassedD_th : Int32 := (nI (0))
def F_5ifPassedE (m : Nat) (nv : Nat) (nc : Nat) (nr : Nat) (z : Nat → Int32) : Int32 := (F_5passedNow m (-1) nv nc nr z)
def F_5ifPassedE_sa (z : Nat → Int32) (sa : Nat → Int32) : Nat → Int32 := (F_5passedNow_sa z sa)
def F_5ifPassedE_th : Int32 := (nI (0))
def F_5doneIn (nv : Nat) (nc : Nat) (nr : Nat) (z : Nat → Int32) (sa : Nat → Int32) : Int32 := (F_5doneNow nv nc nr z sa)
def F_5doneIn_sa (z : Nat → Int32) (sa : Nat → Int32) : Nat → Int32 := (F_5doneNow_sa z sa)
def F_5doneIn_th : Int32 := (nI (0))
def F_5quickestA : Int32 := (nI (0))
theorem F_5quickestA_01 : F_5quickestA  = nI 0 ∨ F_5quickestA  = nI 1 := by
  unfold F_5quickestA
  (repeat' split) <;> first | exact Or.inl rfl | exact Or.inr rfl | exact wi01 _ _ _
def F_5quickestA_th : Int32 := (nI (1))
def F_5quickest (v : Nat) (nr : Nat) (z : Nat → Int32) : Int32 := (L_5quickestNow_4 v z nr)
def F_5quickest_th : Int32 := (nI (0))
def F_5bestLoadA : Int32 := (nI (0))
theorem F_5bestLoadA_01 : F_5bestLoadA  = nI 0 ∨ F_5bestLoadA  = nI 1 := by
  unfold F_5bestLoadA
  (repeat' split) <;> first | exact Or.inl rfl | exact Or.inr rfl | exact wi01 _ _ _
def F_5bestLoadA_th : Int32 := (nI (1))
def F_5bestLoadB : Int32 := (nI (0))
theorem F_5bestLoadB_01 : F_5bestLoadB  = nI 0 ∨ F_5bestLoadB  = nI 1 := by
  unfold F_5bestLoadB
  (repeat' split) <;> first | exact Or.inl rfl | exact Or.inr rfl | exact wi01 _ _ _
def F_5bestLoadB_th : Int32 := (nI (1))
def F_5bestLoad (m : Nat) (w : Nat) (nv : Nat) (nc : Nat) (z : Nat → Int32) (ga : Nat → Int32) (pi : Nat → Int32) (be : Nat → Int32) : Int32 := (F_5bestNow w (F_5layBest_be m nv nc z ga pi be) (F_5layBest_bm m nv nc z ga pi be))
def F_5bestLoad_ga (m : Nat) (nv : Nat) (nc : Nat) (z : Nat → Int32) (ga : Nat → Int32) : Nat → Int32 := (F_5layBest_ga m nv nc z ga)
def F_5bestLoad_pi (m : Nat) (nv : Nat) (nc : Nat) (z : Nat → Int32) (ga : Nat → Int32) (pi : Nat → Int32) (be : Nat → Int32) : Nat → Int32 := (F_5layBest_pi m nv nc z ga pi be)
def F_5bestLoad_be (m : Nat) (nv : Nat) (nc : Nat) (z : Nat → Int32) (ga : Nat → Int32) (pi : Nat → Int32) (be : Nat → Int32) : Nat → Int32 := (F_5layBest_be m nv nc z ga pi be)
def F_5bestLoad_bm (m : Nat) (nv : Nat) (nc : Nat) (z : Nat → Int32) (ga : Nat → Int32) (pi : Nat → Int32) (be : Nat → Int32) : Int32 := (F_5layBest_bm m nv nc z ga pi be)
def F_5bestLoad_th : Int32 := (nI (0))
def F_5openShare (nv : Nat) (nc : Nat) (z : Nat → Int32) (sv : Int32) : UInt64 := (F_5openNow nv nc z sv)
def F_5openShare_th : Int32 := (nI (0))
end
